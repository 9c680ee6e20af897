section
-- ===== PART A: goes FIRST, ahead of the names: the tables' words, and 'selects' of the private methods out of them =====
/-- a private method of a class that the tables say can be made, by its rows of tables_1 -/
def lw_okq (q : MethodName × Nat) : Prop := (q.1.cls ≠ "java/lang/invoke/MethodHandle" ∧ q.1.cls ≠ "java/lang/invoke/VarHandle") ∧ Cond.instantiable q.1.cls q.2 ∈ tables_1 ∧ Cond.privateMethod q.1 ∈ tables_1 ∧ Cond.instanceMethod q.1 ∈ tables_1
theorem lw_p0 : lw_okq (⟨"BeastCave", "deny", "(I)Z"⟩, 19) := ⟨⟨by decide +kernel, by decide +kernel⟩, List.mem_of_getElem? (i := 24) (by decide +kernel), List.mem_of_getElem? (i := 599) (by decide +kernel), List.mem_of_getElem? (i := 600) (by decide +kernel)⟩
theorem lw_p1 : lw_okq (⟨"BeastCave", "grant", "()Z"⟩, 19) := ⟨⟨by decide +kernel, by decide +kernel⟩, List.mem_of_getElem? (i := 24) (by decide +kernel), List.mem_of_getElem? (i := 607) (by decide +kernel), List.mem_of_getElem? (i := 608) (by decide +kernel)⟩
theorem lw_p2 : lw_okq (⟨"BeastCave", "statusOfPlace", "(II)I"⟩, 19) := ⟨⟨by decide +kernel, by decide +kernel⟩, List.mem_of_getElem? (i := 24) (by decide +kernel), List.mem_of_getElem? (i := 615) (by decide +kernel), List.mem_of_getElem? (i := 616) (by decide +kernel)⟩
theorem lw_p3 : lw_okq (⟨"BeastCave", "refuse", "(I)I"⟩, 19) := ⟨⟨by decide +kernel, by decide +kernel⟩, List.mem_of_getElem? (i := 24) (by decide +kernel), List.mem_of_getElem? (i := 638) (by decide +kernel), List.mem_of_getElem? (i := 639) (by decide +kernel)⟩
theorem lw_p4 : lw_okq (⟨"BeastCave$Text", "takeWord", "()V"⟩, 15) := ⟨⟨by decide +kernel, by decide +kernel⟩, List.mem_of_getElem? (i := 50) (by decide +kernel), List.mem_of_getElem? (i := 708) (by decide +kernel), List.mem_of_getElem? (i := 709) (by decide +kernel)⟩
theorem lw_p5 : lw_okq (⟨"BeastCave$Text", "takeNumber", "()V"⟩, 15) := ⟨⟨by decide +kernel, by decide +kernel⟩, List.mem_of_getElem? (i := 50) (by decide +kernel), List.mem_of_getElem? (i := 712) (by decide +kernel), List.mem_of_getElem? (i := 713) (by decide +kernel)⟩
theorem lw_p6 : lw_okq (⟨"BeastCave$Text", "takeSign", "()V"⟩, 15) := ⟨⟨by decide +kernel, by decide +kernel⟩, List.mem_of_getElem? (i := 50) (by decide +kernel), List.mem_of_getElem? (i := 716) (by decide +kernel), List.mem_of_getElem? (i := 717) (by decide +kernel)⟩
theorem lw_p7 : lw_okq (⟨"BeastCave$Reader", "takePart", "()Z"⟩, 9) := ⟨⟨by decide +kernel, by decide +kernel⟩, List.mem_of_getElem? (i := 160) (by decide +kernel), List.mem_of_getElem? (i := 724) (by decide +kernel), List.mem_of_getElem? (i := 725) (by decide +kernel)⟩
theorem lw_p8 : lw_okq (⟨"BeastCave$Reader", "takeLamp", "()Z"⟩, 9) := ⟨⟨by decide +kernel, by decide +kernel⟩, List.mem_of_getElem? (i := 160) (by decide +kernel), List.mem_of_getElem? (i := 728) (by decide +kernel), List.mem_of_getElem? (i := 729) (by decide +kernel)⟩
theorem lw_p9 : lw_okq (⟨"BeastCave$Reader", "takeOdds", "()Z"⟩, 9) := ⟨⟨by decide +kernel, by decide +kernel⟩, List.mem_of_getElem? (i := 160) (by decide +kernel), List.mem_of_getElem? (i := 742) (by decide +kernel), List.mem_of_getElem? (i := 743) (by decide +kernel)⟩
theorem lw_p10 : lw_okq (⟨"BeastCave$Reader", "takeBeast", "()Z"⟩, 9) := ⟨⟨by decide +kernel, by decide +kernel⟩, List.mem_of_getElem? (i := 160) (by decide +kernel), List.mem_of_getElem? (i := 746) (by decide +kernel), List.mem_of_getElem? (i := 747) (by decide +kernel)⟩
theorem lw_p11 : lw_okq (⟨"BeastCave$Reader", "newName", "(II)Z"⟩, 9) := ⟨⟨by decide +kernel, by decide +kernel⟩, List.mem_of_getElem? (i := 160) (by decide +kernel), List.mem_of_getElem? (i := 750) (by decide +kernel), List.mem_of_getElem? (i := 751) (by decide +kernel)⟩
theorem lw_p12 : lw_okq (⟨"BeastCave$Reader", "takeWall", "()Z"⟩, 9) := ⟨⟨by decide +kernel, by decide +kernel⟩, List.mem_of_getElem? (i := 160) (by decide +kernel), List.mem_of_getElem? (i := 766) (by decide +kernel), List.mem_of_getElem? (i := 767) (by decide +kernel)⟩
theorem lw_p13 : lw_okq (⟨"BeastCave$Reader", "knownName", "(II)Z"⟩, 9) := ⟨⟨by decide +kernel, by decide +kernel⟩, List.mem_of_getElem? (i := 160) (by decide +kernel), List.mem_of_getElem? (i := 774) (by decide +kernel), List.mem_of_getElem? (i := 775) (by decide +kernel)⟩
theorem lw_p14 : lw_okq (⟨"BeastCave$Reader", "takeWay", "()Z"⟩, 9) := ⟨⟨by decide +kernel, by decide +kernel⟩, List.mem_of_getElem? (i := 160) (by decide +kernel), List.mem_of_getElem? (i := 786) (by decide +kernel), List.mem_of_getElem? (i := 787) (by decide +kernel)⟩
theorem lw_p15 : lw_okq (⟨"BeastCave$Reader", "takeVisitor", "()Z"⟩, 9) := ⟨⟨by decide +kernel, by decide +kernel⟩, List.mem_of_getElem? (i := 160) (by decide +kernel), List.mem_of_getElem? (i := 794) (by decide +kernel), List.mem_of_getElem? (i := 795) (by decide +kernel)⟩
def lw_privs_1 : List (MethodName × Nat) := [(⟨"BeastCave", "deny", "(I)Z"⟩, 19), (⟨"BeastCave", "grant", "()Z"⟩, 19), (⟨"BeastCave", "statusOfPlace", "(II)I"⟩, 19), (⟨"BeastCave", "refuse", "(I)I"⟩, 19), (⟨"BeastCave$Text", "takeWord", "()V"⟩, 15), (⟨"BeastCave$Text", "takeNumber", "()V"⟩, 15), (⟨"BeastCave$Text", "takeSign", "()V"⟩, 15), (⟨"BeastCave$Reader", "takePart", "()Z"⟩, 9), (⟨"BeastCave$Reader", "takeLamp", "()Z"⟩, 9), (⟨"BeastCave$Reader", "takeOdds", "()Z"⟩, 9), (⟨"BeastCave$Reader", "takeBeast", "()Z"⟩, 9), (⟨"BeastCave$Reader", "newName", "(II)Z"⟩, 9), (⟨"BeastCave$Reader", "takeWall", "()Z"⟩, 9), (⟨"BeastCave$Reader", "knownName", "(II)Z"⟩, 9), (⟨"BeastCave$Reader", "takeWay", "()Z"⟩, 9), (⟨"BeastCave$Reader", "takeVisitor", "()Z"⟩, 9)]
theorem lw_r1 : ∀ q ∈ lw_privs_1, lw_okq q := List.forall_mem_cons.mpr ⟨lw_p0, List.forall_mem_cons.mpr ⟨lw_p1, List.forall_mem_cons.mpr ⟨lw_p2, List.forall_mem_cons.mpr ⟨lw_p3, List.forall_mem_cons.mpr ⟨lw_p4, List.forall_mem_cons.mpr ⟨lw_p5, List.forall_mem_cons.mpr ⟨lw_p6, List.forall_mem_cons.mpr ⟨lw_p7, List.forall_mem_cons.mpr ⟨lw_p8, List.forall_mem_cons.mpr ⟨lw_p9, List.forall_mem_cons.mpr ⟨lw_p10, List.forall_mem_cons.mpr ⟨lw_p11, List.forall_mem_cons.mpr ⟨lw_p12, List.forall_mem_cons.mpr ⟨lw_p13, List.forall_mem_cons.mpr ⟨lw_p14, List.forall_mem_cons.mpr ⟨lw_p15, fun _ h => absurd h List.not_mem_nil⟩⟩⟩⟩⟩⟩⟩⟩⟩⟩⟩⟩⟩⟩⟩⟩
theorem lw_p16 : lw_okq (⟨"BeastCave$Reader", "takeFigure", "()Z"⟩, 9) := ⟨⟨by decide +kernel, by decide +kernel⟩, List.mem_of_getElem? (i := 160) (by decide +kernel), List.mem_of_getElem? (i := 802) (by decide +kernel), List.mem_of_getElem? (i := 803) (by decide +kernel)⟩
theorem lw_p17 : lw_okq (⟨"BeastCave$Reader", "takeOver", "()Z"⟩, 9) := ⟨⟨by decide +kernel, by decide +kernel⟩, List.mem_of_getElem? (i := 160) (by decide +kernel), List.mem_of_getElem? (i := 810) (by decide +kernel), List.mem_of_getElem? (i := 811) (by decide +kernel)⟩
theorem lw_p18 : lw_okq (⟨"BeastCave$Reader", "takeFollows", "()Z"⟩, 9) := ⟨⟨by decide +kernel, by decide +kernel⟩, List.mem_of_getElem? (i := 160) (by decide +kernel), List.mem_of_getElem? (i := 814) (by decide +kernel), List.mem_of_getElem? (i := 815) (by decide +kernel)⟩
theorem lw_p19 : lw_okq (⟨"BeastCave$Walls", "shorten", "(III)V"⟩, 6) := ⟨⟨by decide +kernel, by decide +kernel⟩, List.mem_of_getElem? (i := 323) (by decide +kernel), List.mem_of_getElem? (i := 826) (by decide +kernel), List.mem_of_getElem? (i := 827) (by decide +kernel)⟩
theorem lw_p20 : lw_okq (⟨"BeastCave", "answer", "(I)I"⟩, 19) := ⟨⟨by decide +kernel, by decide +kernel⟩, List.mem_of_getElem? (i := 24) (by decide +kernel), List.mem_of_getElem? (i := 834) (by decide +kernel), List.mem_of_getElem? (i := 835) (by decide +kernel)⟩
theorem lw_p21 : lw_okq (⟨"BeastCave$Reader", "takeEnd", "()Z"⟩, 9) := ⟨⟨by decide +kernel, by decide +kernel⟩, List.mem_of_getElem? (i := 160) (by decide +kernel), List.mem_of_getElem? (i := 848) (by decide +kernel), List.mem_of_getElem? (i := 849) (by decide +kernel)⟩
theorem lw_p22 : lw_okq (⟨"BeastCave$Reader", "takeStep", "()Z"⟩, 9) := ⟨⟨by decide +kernel, by decide +kernel⟩, List.mem_of_getElem? (i := 160) (by decide +kernel), List.mem_of_getElem? (i := 861) (by decide +kernel), List.mem_of_getElem? (i := 862) (by decide +kernel)⟩
theorem lw_p23 : lw_okq (⟨"BeastCave$Reader", "takeTest", "()Z"⟩, 9) := ⟨⟨by decide +kernel, by decide +kernel⟩, List.mem_of_getElem? (i := 160) (by decide +kernel), List.mem_of_getElem? (i := 868) (by decide +kernel), List.mem_of_getElem? (i := 869) (by decide +kernel)⟩
theorem lw_p24 : lw_okq (⟨"BeastCave$Reader", "takeRest", "(I)Z"⟩, 9) := ⟨⟨by decide +kernel, by decide +kernel⟩, List.mem_of_getElem? (i := 160) (by decide +kernel), List.mem_of_getElem? (i := 872) (by decide +kernel), List.mem_of_getElem? (i := 873) (by decide +kernel)⟩
theorem lw_p25 : lw_okq (⟨"BeastCave", "isWall", "(I)Z"⟩, 19) := ⟨⟨by decide +kernel, by decide +kernel⟩, List.mem_of_getElem? (i := 24) (by decide +kernel), List.mem_of_getElem? (i := 910) (by decide +kernel), List.mem_of_getElem? (i := 911) (by decide +kernel)⟩
theorem lw_p26 : lw_okq (⟨"BeastCave", "isVisitor", "(I)Z"⟩, 19) := ⟨⟨by decide +kernel, by decide +kernel⟩, List.mem_of_getElem? (i := 24) (by decide +kernel), List.mem_of_getElem? (i := 918) (by decide +kernel), List.mem_of_getElem? (i := 919) (by decide +kernel)⟩
theorem lw_p27 : lw_okq (⟨"BeastCave", "isBeast", "(I)Z"⟩, 19) := ⟨⟨by decide +kernel, by decide +kernel⟩, List.mem_of_getElem? (i := 24) (by decide +kernel), List.mem_of_getElem? (i := 930) (by decide +kernel), List.mem_of_getElem? (i := 931) (by decide +kernel)⟩
theorem lw_p28 : lw_okq (⟨"BeastCave", "isFigure", "(I)Z"⟩, 19) := ⟨⟨by decide +kernel, by decide +kernel⟩, List.mem_of_getElem? (i := 24) (by decide +kernel), List.mem_of_getElem? (i := 946) (by decide +kernel), List.mem_of_getElem? (i := 947) (by decide +kernel)⟩
theorem lw_p29 : lw_okq (⟨"BeastCave", "statusOfTour", "(III)I"⟩, 19) := ⟨⟨by decide +kernel, by decide +kernel⟩, List.mem_of_getElem? (i := 24) (by decide +kernel), List.mem_of_getElem? (i := 1097) (by decide +kernel), List.mem_of_getElem? (i := 1098) (by decide +kernel)⟩
theorem lw_p30 : lw_okq (⟨"BeastCave$Search", "start", "(LBeastCave$Cave;I)V"⟩, 11) := ⟨⟨by decide +kernel, by decide +kernel⟩, List.mem_of_getElem? (i := 256) (by decide +kernel), List.mem_of_getElem? (i := 1105) (by decide +kernel), List.mem_of_getElem? (i := 1106) (by decide +kernel)⟩
theorem lw_p31 : lw_okq (⟨"BeastCave$Search", "goOn", "(IIII)V"⟩, 11) := ⟨⟨by decide +kernel, by decide +kernel⟩, List.mem_of_getElem? (i := 256) (by decide +kernel), List.mem_of_getElem? (i := 1110) (by decide +kernel), List.mem_of_getElem? (i := 1111) (by decide +kernel)⟩
def lw_privs_2 : List (MethodName × Nat) := [(⟨"BeastCave$Reader", "takeFigure", "()Z"⟩, 9), (⟨"BeastCave$Reader", "takeOver", "()Z"⟩, 9), (⟨"BeastCave$Reader", "takeFollows", "()Z"⟩, 9), (⟨"BeastCave$Walls", "shorten", "(III)V"⟩, 6), (⟨"BeastCave", "answer", "(I)I"⟩, 19), (⟨"BeastCave$Reader", "takeEnd", "()Z"⟩, 9), (⟨"BeastCave$Reader", "takeStep", "()Z"⟩, 9), (⟨"BeastCave$Reader", "takeTest", "()Z"⟩, 9), (⟨"BeastCave$Reader", "takeRest", "(I)Z"⟩, 9), (⟨"BeastCave", "isWall", "(I)Z"⟩, 19), (⟨"BeastCave", "isVisitor", "(I)Z"⟩, 19), (⟨"BeastCave", "isBeast", "(I)Z"⟩, 19), (⟨"BeastCave", "isFigure", "(I)Z"⟩, 19), (⟨"BeastCave", "statusOfTour", "(III)I"⟩, 19), (⟨"BeastCave$Search", "start", "(LBeastCave$Cave;I)V"⟩, 11), (⟨"BeastCave$Search", "goOn", "(IIII)V"⟩, 11)]
theorem lw_r2 : ∀ q ∈ lw_privs_2, lw_okq q := List.forall_mem_cons.mpr ⟨lw_p16, List.forall_mem_cons.mpr ⟨lw_p17, List.forall_mem_cons.mpr ⟨lw_p18, List.forall_mem_cons.mpr ⟨lw_p19, List.forall_mem_cons.mpr ⟨lw_p20, List.forall_mem_cons.mpr ⟨lw_p21, List.forall_mem_cons.mpr ⟨lw_p22, List.forall_mem_cons.mpr ⟨lw_p23, List.forall_mem_cons.mpr ⟨lw_p24, List.forall_mem_cons.mpr ⟨lw_p25, List.forall_mem_cons.mpr ⟨lw_p26, List.forall_mem_cons.mpr ⟨lw_p27, List.forall_mem_cons.mpr ⟨lw_p28, List.forall_mem_cons.mpr ⟨lw_p29, List.forall_mem_cons.mpr ⟨lw_p30, List.forall_mem_cons.mpr ⟨lw_p31, fun _ h => absurd h List.not_mem_nil⟩⟩⟩⟩⟩⟩⟩⟩⟩⟩⟩⟩⟩⟩⟩⟩
theorem lw_p32 : lw_okq (⟨"BeastCave$Search", "staysHimself", "(III)Z"⟩, 11) := ⟨⟨by decide +kernel, by decide +kernel⟩, List.mem_of_getElem? (i := 256) (by decide +kernel), List.mem_of_getElem? (i := 1116) (by decide +kernel), List.mem_of_getElem? (i := 1117) (by decide +kernel)⟩
theorem lw_p33 : lw_okq (⟨"BeastCave$Figures", "findLikeSets", "(I[I)V"⟩, 5) := ⟨⟨by decide +kernel, by decide +kernel⟩, List.mem_of_getElem? (i := 365) (by decide +kernel), List.mem_of_getElem? (i := 1159) (by decide +kernel), List.mem_of_getElem? (i := 1160) (by decide +kernel)⟩
theorem lw_p34 : lw_okq (⟨"BeastCave$Figures", "isLikeAll", "(III)Z"⟩, 5) := ⟨⟨by decide +kernel, by decide +kernel⟩, List.mem_of_getElem? (i := 365) (by decide +kernel), List.mem_of_getElem? (i := 1163) (by decide +kernel), List.mem_of_getElem? (i := 1164) (by decide +kernel)⟩
theorem lw_p35 : lw_okq (⟨"BeastCave", "statusOfSeen", "(III)I"⟩, 19) := ⟨⟨by decide +kernel, by decide +kernel⟩, List.mem_of_getElem? (i := 24) (by decide +kernel), List.mem_of_getElem? (i := 1213) (by decide +kernel), List.mem_of_getElem? (i := 1214) (by decide +kernel)⟩
theorem lw_p36 : lw_okq (⟨"BeastCave$Ahead", "whoWithSelf", "(LBeastCave$Cave;II)I"⟩, 3) := ⟨⟨by decide +kernel, by decide +kernel⟩, List.mem_of_getElem? (i := 237) (by decide +kernel), List.mem_of_getElem? (i := 1225) (by decide +kernel), List.mem_of_getElem? (i := 1226) (by decide +kernel)⟩
theorem lw_p37 : lw_okq (⟨"BeastCave$Search", "valueOf", "(III)I"⟩, 11) := ⟨⟨by decide +kernel, by decide +kernel⟩, List.mem_of_getElem? (i := 256) (by decide +kernel), List.mem_of_getElem? (i := 1258) (by decide +kernel), List.mem_of_getElem? (i := 1259) (by decide +kernel)⟩
theorem lw_p38 : lw_okq (⟨"BeastCave$Search", "bestOfGuide", "(III)I"⟩, 11) := ⟨⟨by decide +kernel, by decide +kernel⟩, List.mem_of_getElem? (i := 256) (by decide +kernel), List.mem_of_getElem? (i := 1262) (by decide +kernel), List.mem_of_getElem? (i := 1263) (by decide +kernel)⟩
theorem lw_p39 : lw_okq (⟨"BeastCave$Search", "behindMinute", "(III)I"⟩, 11) := ⟨⟨by decide +kernel, by decide +kernel⟩, List.mem_of_getElem? (i := 256) (by decide +kernel), List.mem_of_getElem? (i := 1266) (by decide +kernel), List.mem_of_getElem? (i := 1267) (by decide +kernel)⟩
theorem lw_p40 : lw_okq (⟨"BeastCave$Search", "bestOfBeast", "(III)I"⟩, 11) := ⟨⟨by decide +kernel, by decide +kernel⟩, List.mem_of_getElem? (i := 256) (by decide +kernel), List.mem_of_getElem? (i := 1271) (by decide +kernel), List.mem_of_getElem? (i := 1272) (by decide +kernel)⟩
theorem lw_p41 : lw_okq (⟨"BeastCave", "tellFraction", "(JJ)V"⟩, 19) := ⟨⟨by decide +kernel, by decide +kernel⟩, List.mem_of_getElem? (i := 24) (by decide +kernel), List.mem_of_getElem? (i := 1289) (by decide +kernel), List.mem_of_getElem? (i := 1290) (by decide +kernel)⟩
theorem lw_p42 : lw_okq (⟨"BeastCave$Life", "behindEnd", "(I)I"⟩, 10) := ⟨⟨by decide +kernel, by decide +kernel⟩, List.mem_of_getElem? (i := 194) (by decide +kernel), List.mem_of_getElem? (i := 1306) (by decide +kernel), List.mem_of_getElem? (i := 1307) (by decide +kernel)⟩
theorem lw_p43 : lw_okq (⟨"BeastCave$Life", "behindStep", "(I)I"⟩, 10) := ⟨⟨by decide +kernel, by decide +kernel⟩, List.mem_of_getElem? (i := 194) (by decide +kernel), List.mem_of_getElem? (i := 1310) (by decide +kernel), List.mem_of_getElem? (i := 1311) (by decide +kernel)⟩
theorem lw_p44 : lw_okq (⟨"BeastCave$Life", "holds", "(I)Z"⟩, 10) := ⟨⟨by decide +kernel, by decide +kernel⟩, List.mem_of_getElem? (i := 194) (by decide +kernel), List.mem_of_getElem? (i := 1314) (by decide +kernel), List.mem_of_getElem? (i := 1315) (by decide +kernel)⟩
theorem lw_p45 : lw_okq (⟨"BeastCave$Life", "isThere", "(I)Z"⟩, 10) := ⟨⟨by decide +kernel, by decide +kernel⟩, List.mem_of_getElem? (i := 194) (by decide +kernel), List.mem_of_getElem? (i := 1318) (by decide +kernel), List.mem_of_getElem? (i := 1319) (by decide +kernel)⟩
theorem lw_p46 : lw_okq (⟨"BeastCave$Life", "letPass", "(I)Z"⟩, 10) := ⟨⟨by decide +kernel, by decide +kernel⟩, List.mem_of_getElem? (i := 194) (by decide +kernel), List.mem_of_getElem? (i := 1325) (by decide +kernel), List.mem_of_getElem? (i := 1326) (by decide +kernel)⟩
theorem lw_p47 : lw_okq (⟨"BeastCave$Life", "leadOne", "(I)Z"⟩, 10) := ⟨⟨by decide +kernel, by decide +kernel⟩, List.mem_of_getElem? (i := 194) (by decide +kernel), List.mem_of_getElem? (i := 1332) (by decide +kernel), List.mem_of_getElem? (i := 1333) (by decide +kernel)⟩
def lw_privs_3 : List (MethodName × Nat) := [(⟨"BeastCave$Search", "staysHimself", "(III)Z"⟩, 11), (⟨"BeastCave$Figures", "findLikeSets", "(I[I)V"⟩, 5), (⟨"BeastCave$Figures", "isLikeAll", "(III)Z"⟩, 5), (⟨"BeastCave", "statusOfSeen", "(III)I"⟩, 19), (⟨"BeastCave$Ahead", "whoWithSelf", "(LBeastCave$Cave;II)I"⟩, 3), (⟨"BeastCave$Search", "valueOf", "(III)I"⟩, 11), (⟨"BeastCave$Search", "bestOfGuide", "(III)I"⟩, 11), (⟨"BeastCave$Search", "behindMinute", "(III)I"⟩, 11), (⟨"BeastCave$Search", "bestOfBeast", "(III)I"⟩, 11), (⟨"BeastCave", "tellFraction", "(JJ)V"⟩, 19), (⟨"BeastCave$Life", "behindEnd", "(I)I"⟩, 10), (⟨"BeastCave$Life", "behindStep", "(I)I"⟩, 10), (⟨"BeastCave$Life", "holds", "(I)Z"⟩, 10), (⟨"BeastCave$Life", "isThere", "(I)Z"⟩, 10), (⟨"BeastCave$Life", "letPass", "(I)Z"⟩, 10), (⟨"BeastCave$Life", "leadOne", "(I)Z"⟩, 10)]
theorem lw_r3 : ∀ q ∈ lw_privs_3, lw_okq q := List.forall_mem_cons.mpr ⟨lw_p32, List.forall_mem_cons.mpr ⟨lw_p33, List.forall_mem_cons.mpr ⟨lw_p34, List.forall_mem_cons.mpr ⟨lw_p35, List.forall_mem_cons.mpr ⟨lw_p36, List.forall_mem_cons.mpr ⟨lw_p37, List.forall_mem_cons.mpr ⟨lw_p38, List.forall_mem_cons.mpr ⟨lw_p39, List.forall_mem_cons.mpr ⟨lw_p40, List.forall_mem_cons.mpr ⟨lw_p41, List.forall_mem_cons.mpr ⟨lw_p42, List.forall_mem_cons.mpr ⟨lw_p43, List.forall_mem_cons.mpr ⟨lw_p44, List.forall_mem_cons.mpr ⟨lw_p45, List.forall_mem_cons.mpr ⟨lw_p46, List.forall_mem_cons.mpr ⟨lw_p47, fun _ h => absurd h List.not_mem_nil⟩⟩⟩⟩⟩⟩⟩⟩⟩⟩⟩⟩⟩⟩⟩⟩
theorem lw_p48 : lw_okq (⟨"BeastCave$Life", "pick", "(I)I"⟩, 10) := ⟨⟨by decide +kernel, by decide +kernel⟩, List.mem_of_getElem? (i := 194) (by decide +kernel), List.mem_of_getElem? (i := 1336) (by decide +kernel), List.mem_of_getElem? (i := 1337) (by decide +kernel)⟩
theorem lw_p49 : lw_okq (⟨"BeastCaveModel", "plain", "(I)V"⟩, 50) := ⟨⟨by decide +kernel, by decide +kernel⟩, List.mem_of_getElem? (i := 1363) (by decide +kernel), List.mem_of_getElem? (i := 1369) (by decide +kernel), List.mem_of_getElem? (i := 1370) (by decide +kernel)⟩
theorem lw_p50 : lw_okq (⟨"BeastCaveModel", "is", "(I)Z"⟩, 50) := ⟨⟨by decide +kernel, by decide +kernel⟩, List.mem_of_getElem? (i := 1363) (by decide +kernel), List.mem_of_getElem? (i := 1544) (by decide +kernel), List.mem_of_getElem? (i := 1545) (by decide +kernel)⟩
theorem lw_p51 : lw_okq (⟨"BeastCaveModel", "wrongPlace", "(II)I"⟩, 50) := ⟨⟨by decide +kernel, by decide +kernel⟩, List.mem_of_getElem? (i := 1363) (by decide +kernel), List.mem_of_getElem? (i := 1552) (by decide +kernel), List.mem_of_getElem? (i := 1553) (by decide +kernel)⟩
theorem lw_p52 : lw_okq (⟨"BeastCaveModel", "four", "(I)V"⟩, 50) := ⟨⟨by decide +kernel, by decide +kernel⟩, List.mem_of_getElem? (i := 1363) (by decide +kernel), List.mem_of_getElem? (i := 1572) (by decide +kernel), List.mem_of_getElem? (i := 1573) (by decide +kernel)⟩
theorem lw_p53 : lw_okq (⟨"BeastCaveModel", "begins", "(II)Z"⟩, 50) := ⟨⟨by decide +kernel, by decide +kernel⟩, List.mem_of_getElem? (i := 1363) (by decide +kernel), List.mem_of_getElem? (i := 1584) (by decide +kernel), List.mem_of_getElem? (i := 1585) (by decide +kernel)⟩
theorem lw_p54 : lw_okq (⟨"BeastCaveModel", "ahead", "()V"⟩, 50) := ⟨⟨by decide +kernel, by decide +kernel⟩, List.mem_of_getElem? (i := 1363) (by decide +kernel), List.mem_of_getElem? (i := 1588) (by decide +kernel), List.mem_of_getElem? (i := 1589) (by decide +kernel)⟩
theorem lw_p55 : lw_okq (⟨"BeastCaveModel", "byteAt", "(I)I"⟩, 50) := ⟨⟨by decide +kernel, by decide +kernel⟩, List.mem_of_getElem? (i := 1363) (by decide +kernel), List.mem_of_getElem? (i := 1592) (by decide +kernel), List.mem_of_getElem? (i := 1593) (by decide +kernel)⟩
theorem lw_p56 : lw_okq (⟨"BeastCaveModel", "refuse", "(I)I"⟩, 50) := ⟨⟨by decide +kernel, by decide +kernel⟩, List.mem_of_getElem? (i := 1363) (by decide +kernel), List.mem_of_getElem? (i := 1604) (by decide +kernel), List.mem_of_getElem? (i := 1605) (by decide +kernel)⟩
theorem lw_p57 : lw_okq (⟨"BeastCaveModel", "cavePart", "()Z"⟩, 50) := ⟨⟨by decide +kernel, by decide +kernel⟩, List.mem_of_getElem? (i := 1363) (by decide +kernel), List.mem_of_getElem? (i := 1608) (by decide +kernel), List.mem_of_getElem? (i := 1609) (by decide +kernel)⟩
theorem lw_p58 : lw_okq (⟨"BeastCaveModel", "inWords", "(Ljava/lang/String;)I"⟩, 50) := ⟨⟨by decide +kernel, by decide +kernel⟩, List.mem_of_getElem? (i := 1363) (by decide +kernel), List.mem_of_getElem? (i := 1613) (by decide +kernel), List.mem_of_getElem? (i := 1614) (by decide +kernel)⟩
theorem lw_p59 : lw_okq (⟨"BeastCaveModel", "fails", "(I)Z"⟩, 50) := ⟨⟨by decide +kernel, by decide +kernel⟩, List.mem_of_getElem? (i := 1363) (by decide +kernel), List.mem_of_getElem? (i := 1619) (by decide +kernel), List.mem_of_getElem? (i := 1620) (by decide +kernel)⟩
theorem lw_p60 : lw_okq (⟨"BeastCaveModel", "number", "(III)Z"⟩, 50) := ⟨⟨by decide +kernel, by decide +kernel⟩, List.mem_of_getElem? (i := 1363) (by decide +kernel), List.mem_of_getElem? (i := 1623) (by decide +kernel), List.mem_of_getElem? (i := 1624) (by decide +kernel)⟩
theorem lw_p61 : lw_okq (⟨"BeastCaveModel", "aBeast", "()Z"⟩, 50) := ⟨⟨by decide +kernel, by decide +kernel⟩, List.mem_of_getElem? (i := 1363) (by decide +kernel), List.mem_of_getElem? (i := 1627) (by decide +kernel), List.mem_of_getElem? (i := 1628) (by decide +kernel)⟩
theorem lw_p62 : lw_okq (⟨"BeastCaveModel", "newOne", "(III)Z"⟩, 50) := ⟨⟨by decide +kernel, by decide +kernel⟩, List.mem_of_getElem? (i := 1363) (by decide +kernel), List.mem_of_getElem? (i := 1631) (by decide +kernel), List.mem_of_getElem? (i := 1632) (by decide +kernel)⟩
theorem lw_p63 : lw_okq (⟨"BeastCaveModel", "isName", "(Ljava/lang/String;)Z"⟩, 50) := ⟨⟨by decide +kernel, by decide +kernel⟩, List.mem_of_getElem? (i := 1363) (by decide +kernel), List.mem_of_getElem? (i := 1635) (by decide +kernel), List.mem_of_getElem? (i := 1636) (by decide +kernel)⟩
def lw_privs_4 : List (MethodName × Nat) := [(⟨"BeastCave$Life", "pick", "(I)I"⟩, 10), (⟨"BeastCaveModel", "plain", "(I)V"⟩, 50), (⟨"BeastCaveModel", "is", "(I)Z"⟩, 50), (⟨"BeastCaveModel", "wrongPlace", "(II)I"⟩, 50), (⟨"BeastCaveModel", "four", "(I)V"⟩, 50), (⟨"BeastCaveModel", "begins", "(II)Z"⟩, 50), (⟨"BeastCaveModel", "ahead", "()V"⟩, 50), (⟨"BeastCaveModel", "byteAt", "(I)I"⟩, 50), (⟨"BeastCaveModel", "refuse", "(I)I"⟩, 50), (⟨"BeastCaveModel", "cavePart", "()Z"⟩, 50), (⟨"BeastCaveModel", "inWords", "(Ljava/lang/String;)I"⟩, 50), (⟨"BeastCaveModel", "fails", "(I)Z"⟩, 50), (⟨"BeastCaveModel", "number", "(III)Z"⟩, 50), (⟨"BeastCaveModel", "aBeast", "()Z"⟩, 50), (⟨"BeastCaveModel", "newOne", "(III)Z"⟩, 50), (⟨"BeastCaveModel", "isName", "(Ljava/lang/String;)Z"⟩, 50)]
theorem lw_r4 : ∀ q ∈ lw_privs_4, lw_okq q := List.forall_mem_cons.mpr ⟨lw_p48, List.forall_mem_cons.mpr ⟨lw_p49, List.forall_mem_cons.mpr ⟨lw_p50, List.forall_mem_cons.mpr ⟨lw_p51, List.forall_mem_cons.mpr ⟨lw_p52, List.forall_mem_cons.mpr ⟨lw_p53, List.forall_mem_cons.mpr ⟨lw_p54, List.forall_mem_cons.mpr ⟨lw_p55, List.forall_mem_cons.mpr ⟨lw_p56, List.forall_mem_cons.mpr ⟨lw_p57, List.forall_mem_cons.mpr ⟨lw_p58, List.forall_mem_cons.mpr ⟨lw_p59, List.forall_mem_cons.mpr ⟨lw_p60, List.forall_mem_cons.mpr ⟨lw_p61, List.forall_mem_cons.mpr ⟨lw_p62, List.forall_mem_cons.mpr ⟨lw_p63, fun _ h => absurd h List.not_mem_nil⟩⟩⟩⟩⟩⟩⟩⟩⟩⟩⟩⟩⟩⟩⟩⟩
theorem lw_p64 : lw_okq (⟨"BeastCaveModel", "isOld", "()Z"⟩, 50) := ⟨⟨by decide +kernel, by decide +kernel⟩, List.mem_of_getElem? (i := 1363) (by decide +kernel), List.mem_of_getElem? (i := 1639) (by decide +kernel), List.mem_of_getElem? (i := 1640) (by decide +kernel)⟩
theorem lw_p65 : lw_okq (⟨"BeastCaveModel", "findHere", "(II)I"⟩, 50) := ⟨⟨by decide +kernel, by decide +kernel⟩, List.mem_of_getElem? (i := 1363) (by decide +kernel), List.mem_of_getElem? (i := 1643) (by decide +kernel), List.mem_of_getElem? (i := 1644) (by decide +kernel)⟩
theorem lw_p66 : lw_okq (⟨"BeastCaveModel", "nameHere", "()J"⟩, 50) := ⟨⟨by decide +kernel, by decide +kernel⟩, List.mem_of_getElem? (i := 1363) (by decide +kernel), List.mem_of_getElem? (i := 1647) (by decide +kernel), List.mem_of_getElem? (i := 1648) (by decide +kernel)⟩
theorem lw_p67 : lw_okq (⟨"BeastCaveModel", "aWall", "()Z"⟩, 50) := ⟨⟨by decide +kernel, by decide +kernel⟩, List.mem_of_getElem? (i := 1363) (by decide +kernel), List.mem_of_getElem? (i := 1651) (by decide +kernel), List.mem_of_getElem? (i := 1652) (by decide +kernel)⟩
theorem lw_p68 : lw_okq (⟨"BeastCaveModel", "isThere", "(I)Z"⟩, 50) := ⟨⟨by decide +kernel, by decide +kernel⟩, List.mem_of_getElem? (i := 1363) (by decide +kernel), List.mem_of_getElem? (i := 1658) (by decide +kernel), List.mem_of_getElem? (i := 1659) (by decide +kernel)⟩
theorem lw_p69 : lw_okq (⟨"BeastCaveModel", "newBeastTo", "(I)Z"⟩, 50) := ⟨⟨by decide +kernel, by decide +kernel⟩, List.mem_of_getElem? (i := 1363) (by decide +kernel), List.mem_of_getElem? (i := 1662) (by decide +kernel), List.mem_of_getElem? (i := 1663) (by decide +kernel)⟩
theorem lw_p70 : lw_okq (⟨"BeastCaveModel", "oldOne", "(III)Z"⟩, 50) := ⟨⟨by decide +kernel, by decide +kernel⟩, List.mem_of_getElem? (i := 1363) (by decide +kernel), List.mem_of_getElem? (i := 1666) (by decide +kernel), List.mem_of_getElem? (i := 1667) (by decide +kernel)⟩
theorem lw_p71 : lw_okq (⟨"BeastCaveModel", "wantWord", "(Ljava/lang/String;I)Z"⟩, 50) := ⟨⟨by decide +kernel, by decide +kernel⟩, List.mem_of_getElem? (i := 1363) (by decide +kernel), List.mem_of_getElem? (i := 1670) (by decide +kernel), List.mem_of_getElem? (i := 1671) (by decide +kernel)⟩
theorem lw_p72 : lw_okq (⟨"BeastCaveModel", "aWay", "()Z"⟩, 50) := ⟨⟨by decide +kernel, by decide +kernel⟩, List.mem_of_getElem? (i := 1363) (by decide +kernel), List.mem_of_getElem? (i := 1674) (by decide +kernel), List.mem_of_getElem? (i := 1675) (by decide +kernel)⟩
theorem lw_p73 : lw_okq (⟨"BeastCaveModel", "oldTwo", "(III)Z"⟩, 50) := ⟨⟨by decide +kernel, by decide +kernel⟩, List.mem_of_getElem? (i := 1363) (by decide +kernel), List.mem_of_getElem? (i := 1678) (by decide +kernel), List.mem_of_getElem? (i := 1679) (by decide +kernel)⟩
theorem lw_p74 : lw_okq (⟨"BeastCaveModel", "aVisitor", "()Z"⟩, 50) := ⟨⟨by decide +kernel, by decide +kernel⟩, List.mem_of_getElem? (i := 1363) (by decide +kernel), List.mem_of_getElem? (i := 1682) (by decide +kernel), List.mem_of_getElem? (i := 1683) (by decide +kernel)⟩
theorem lw_p75 : lw_okq (⟨"BeastCaveModel", "aFigure", "()Z"⟩, 50) := ⟨⟨by decide +kernel, by decide +kernel⟩, List.mem_of_getElem? (i := 1363) (by decide +kernel), List.mem_of_getElem? (i := 1689) (by decide +kernel), List.mem_of_getElem? (i := 1690) (by decide +kernel)⟩
theorem lw_p76 : lw_okq (⟨"BeastCaveModel", "anOver", "()Z"⟩, 50) := ⟨⟨by decide +kernel, by decide +kernel⟩, List.mem_of_getElem? (i := 1363) (by decide +kernel), List.mem_of_getElem? (i := 1696) (by decide +kernel), List.mem_of_getElem? (i := 1697) (by decide +kernel)⟩
theorem lw_p77 : lw_okq (⟨"BeastCaveModel", "aFollowing", "()Z"⟩, 50) := ⟨⟨by decide +kernel, by decide +kernel⟩, List.mem_of_getElem? (i := 1363) (by decide +kernel), List.mem_of_getElem? (i := 1700) (by decide +kernel), List.mem_of_getElem? (i := 1701) (by decide +kernel)⟩
theorem lw_p78 : lw_okq (⟨"BeastCaveModel", "wantSign", "(I)Z"⟩, 50) := ⟨⟨by decide +kernel, by decide +kernel⟩, List.mem_of_getElem? (i := 1363) (by decide +kernel), List.mem_of_getElem? (i := 1704) (by decide +kernel), List.mem_of_getElem? (i := 1705) (by decide +kernel)⟩
theorem lw_p79 : lw_okq (⟨"BeastCaveModel", "isSign", "(I)Z"⟩, 50) := ⟨⟨by decide +kernel, by decide +kernel⟩, List.mem_of_getElem? (i := 1363) (by decide +kernel), List.mem_of_getElem? (i := 1708) (by decide +kernel), List.mem_of_getElem? (i := 1709) (by decide +kernel)⟩
def lw_privs_5 : List (MethodName × Nat) := [(⟨"BeastCaveModel", "isOld", "()Z"⟩, 50), (⟨"BeastCaveModel", "findHere", "(II)I"⟩, 50), (⟨"BeastCaveModel", "nameHere", "()J"⟩, 50), (⟨"BeastCaveModel", "aWall", "()Z"⟩, 50), (⟨"BeastCaveModel", "isThere", "(I)Z"⟩, 50), (⟨"BeastCaveModel", "newBeastTo", "(I)Z"⟩, 50), (⟨"BeastCaveModel", "oldOne", "(III)Z"⟩, 50), (⟨"BeastCaveModel", "wantWord", "(Ljava/lang/String;I)Z"⟩, 50), (⟨"BeastCaveModel", "aWay", "()Z"⟩, 50), (⟨"BeastCaveModel", "oldTwo", "(III)Z"⟩, 50), (⟨"BeastCaveModel", "aVisitor", "()Z"⟩, 50), (⟨"BeastCaveModel", "aFigure", "()Z"⟩, 50), (⟨"BeastCaveModel", "anOver", "()Z"⟩, 50), (⟨"BeastCaveModel", "aFollowing", "()Z"⟩, 50), (⟨"BeastCaveModel", "wantSign", "(I)Z"⟩, 50), (⟨"BeastCaveModel", "isSign", "(I)Z"⟩, 50)]
theorem lw_r5 : ∀ q ∈ lw_privs_5, lw_okq q := List.forall_mem_cons.mpr ⟨lw_p64, List.forall_mem_cons.mpr ⟨lw_p65, List.forall_mem_cons.mpr ⟨lw_p66, List.forall_mem_cons.mpr ⟨lw_p67, List.forall_mem_cons.mpr ⟨lw_p68, List.forall_mem_cons.mpr ⟨lw_p69, List.forall_mem_cons.mpr ⟨lw_p70, List.forall_mem_cons.mpr ⟨lw_p71, List.forall_mem_cons.mpr ⟨lw_p72, List.forall_mem_cons.mpr ⟨lw_p73, List.forall_mem_cons.mpr ⟨lw_p74, List.forall_mem_cons.mpr ⟨lw_p75, List.forall_mem_cons.mpr ⟨lw_p76, List.forall_mem_cons.mpr ⟨lw_p77, List.forall_mem_cons.mpr ⟨lw_p78, List.forall_mem_cons.mpr ⟨lw_p79, fun _ h => absurd h List.not_mem_nil⟩⟩⟩⟩⟩⟩⟩⟩⟩⟩⟩⟩⟩⟩⟩⟩
theorem lw_p80 : lw_okq (⟨"BeastCaveModel", "taken", "(I)I"⟩, 50) := ⟨⟨by decide +kernel, by decide +kernel⟩, List.mem_of_getElem? (i := 1363) (by decide +kernel), List.mem_of_getElem? (i := 1712) (by decide +kernel), List.mem_of_getElem? (i := 1713) (by decide +kernel)⟩
theorem lw_p81 : lw_okq (⟨"BeastCaveModel", "gives", "(I)I"⟩, 50) := ⟨⟨by decide +kernel, by decide +kernel⟩, List.mem_of_getElem? (i := 1363) (by decide +kernel), List.mem_of_getElem? (i := 1716) (by decide +kernel), List.mem_of_getElem? (i := 1717) (by decide +kernel)⟩
theorem lw_p82 : lw_okq (⟨"BeastCaveModel", "dayStep", "()Z"⟩, 50) := ⟨⟨by decide +kernel, by decide +kernel⟩, List.mem_of_getElem? (i := 1363) (by decide +kernel), List.mem_of_getElem? (i := 1724) (by decide +kernel), List.mem_of_getElem? (i := 1725) (by decide +kernel)⟩
theorem lw_p83 : lw_okq (⟨"BeastCaveModel", "dayOrder", "(II)Z"⟩, 50) := ⟨⟨by decide +kernel, by decide +kernel⟩, List.mem_of_getElem? (i := 1363) (by decide +kernel), List.mem_of_getElem? (i := 1728) (by decide +kernel), List.mem_of_getElem? (i := 1729) (by decide +kernel)⟩
theorem lw_p84 : lw_okq (⟨"BeastCaveModel", "visitorTo", "(I)Z"⟩, 50) := ⟨⟨by decide +kernel, by decide +kernel⟩, List.mem_of_getElem? (i := 1363) (by decide +kernel), List.mem_of_getElem? (i := 1732) (by decide +kernel), List.mem_of_getElem? (i := 1733) (by decide +kernel)⟩
theorem lw_p85 : lw_okq (⟨"BeastCaveModel", "wallTo", "(I)Z"⟩, 50) := ⟨⟨by decide +kernel, by decide +kernel⟩, List.mem_of_getElem? (i := 1363) (by decide +kernel), List.mem_of_getElem? (i := 1736) (by decide +kernel), List.mem_of_getElem? (i := 1737) (by decide +kernel)⟩
theorem lw_p86 : lw_okq (⟨"BeastCaveModel", "test", "(I)Z"⟩, 50) := ⟨⟨by decide +kernel, by decide +kernel⟩, List.mem_of_getElem? (i := 1363) (by decide +kernel), List.mem_of_getElem? (i := 1740) (by decide +kernel), List.mem_of_getElem? (i := 1741) (by decide +kernel)⟩
theorem lw_p87 : lw_okq (⟨"BeastCaveModel", "bareOnes", "()I"⟩, 50) := ⟨⟨by decide +kernel, by decide +kernel⟩, List.mem_of_getElem? (i := 1363) (by decide +kernel), List.mem_of_getElem? (i := 1748) (by decide +kernel), List.mem_of_getElem? (i := 1749) (by decide +kernel)⟩
theorem lw_p88 : lw_okq (⟨"BeastCaveModel", "wallOf", "(II)I"⟩, 50) := ⟨⟨by decide +kernel, by decide +kernel⟩, List.mem_of_getElem? (i := 1363) (by decide +kernel), List.mem_of_getElem? (i := 1752) (by decide +kernel), List.mem_of_getElem? (i := 1753) (by decide +kernel)⟩
theorem lw_p89 : lw_okq (⟨"BeastCaveModel", "visitorsThat", "(I)I"⟩, 50) := ⟨⟨by decide +kernel, by decide +kernel⟩, List.mem_of_getElem? (i := 1363) (by decide +kernel), List.mem_of_getElem? (i := 1756) (by decide +kernel), List.mem_of_getElem? (i := 1757) (by decide +kernel)⟩
theorem lw_p90 : lw_okq (⟨"BeastCaveModel", "isTurned", "(I)Z"⟩, 50) := ⟨⟨by decide +kernel, by decide +kernel⟩, List.mem_of_getElem? (i := 1363) (by decide +kernel), List.mem_of_getElem? (i := 1760) (by decide +kernel), List.mem_of_getElem? (i := 1761) (by decide +kernel)⟩
theorem lw_p91 : lw_okq (⟨"BeastCaveModel", "mostOf", "(I)I"⟩, 50) := ⟨⟨by decide +kernel, by decide +kernel⟩, List.mem_of_getElem? (i := 1363) (by decide +kernel), List.mem_of_getElem? (i := 1764) (by decide +kernel), List.mem_of_getElem? (i := 1765) (by decide +kernel)⟩
theorem lw_p92 : lw_okq (⟨"BeastCaveModel", "greatestOf", "(I)I"⟩, 50) := ⟨⟨by decide +kernel, by decide +kernel⟩, List.mem_of_getElem? (i := 1363) (by decide +kernel), List.mem_of_getElem? (i := 1768) (by decide +kernel), List.mem_of_getElem? (i := 1769) (by decide +kernel)⟩
theorem lw_p93 : lw_okq (⟨"BeastCaveModel", "visitorOf", "(II)I"⟩, 50) := ⟨⟨by decide +kernel, by decide +kernel⟩, List.mem_of_getElem? (i := 1363) (by decide +kernel), List.mem_of_getElem? (i := 1772) (by decide +kernel), List.mem_of_getElem? (i := 1773) (by decide +kernel)⟩
theorem lw_p94 : lw_okq (⟨"BeastCaveModel", "isWall", "(I)Z"⟩, 50) := ⟨⟨by decide +kernel, by decide +kernel⟩, List.mem_of_getElem? (i := 1363) (by decide +kernel), List.mem_of_getElem? (i := 1780) (by decide +kernel), List.mem_of_getElem? (i := 1781) (by decide +kernel)⟩
theorem lw_p95 : lw_okq (⟨"BeastCaveModel", "isVisitor", "(I)Z"⟩, 50) := ⟨⟨by decide +kernel, by decide +kernel⟩, List.mem_of_getElem? (i := 1363) (by decide +kernel), List.mem_of_getElem? (i := 1788) (by decide +kernel), List.mem_of_getElem? (i := 1789) (by decide +kernel)⟩
def lw_privs_6 : List (MethodName × Nat) := [(⟨"BeastCaveModel", "taken", "(I)I"⟩, 50), (⟨"BeastCaveModel", "gives", "(I)I"⟩, 50), (⟨"BeastCaveModel", "dayStep", "()Z"⟩, 50), (⟨"BeastCaveModel", "dayOrder", "(II)Z"⟩, 50), (⟨"BeastCaveModel", "visitorTo", "(I)Z"⟩, 50), (⟨"BeastCaveModel", "wallTo", "(I)Z"⟩, 50), (⟨"BeastCaveModel", "test", "(I)Z"⟩, 50), (⟨"BeastCaveModel", "bareOnes", "()I"⟩, 50), (⟨"BeastCaveModel", "wallOf", "(II)I"⟩, 50), (⟨"BeastCaveModel", "visitorsThat", "(I)I"⟩, 50), (⟨"BeastCaveModel", "isTurned", "(I)Z"⟩, 50), (⟨"BeastCaveModel", "mostOf", "(I)I"⟩, 50), (⟨"BeastCaveModel", "greatestOf", "(I)I"⟩, 50), (⟨"BeastCaveModel", "visitorOf", "(II)I"⟩, 50), (⟨"BeastCaveModel", "isWall", "(I)Z"⟩, 50), (⟨"BeastCaveModel", "isVisitor", "(I)Z"⟩, 50)]
theorem lw_r6 : ∀ q ∈ lw_privs_6, lw_okq q := List.forall_mem_cons.mpr ⟨lw_p80, List.forall_mem_cons.mpr ⟨lw_p81, List.forall_mem_cons.mpr ⟨lw_p82, List.forall_mem_cons.mpr ⟨lw_p83, List.forall_mem_cons.mpr ⟨lw_p84, List.forall_mem_cons.mpr ⟨lw_p85, List.forall_mem_cons.mpr ⟨lw_p86, List.forall_mem_cons.mpr ⟨lw_p87, List.forall_mem_cons.mpr ⟨lw_p88, List.forall_mem_cons.mpr ⟨lw_p89, List.forall_mem_cons.mpr ⟨lw_p90, List.forall_mem_cons.mpr ⟨lw_p91, List.forall_mem_cons.mpr ⟨lw_p92, List.forall_mem_cons.mpr ⟨lw_p93, List.forall_mem_cons.mpr ⟨lw_p94, List.forall_mem_cons.mpr ⟨lw_p95, fun _ h => absurd h List.not_mem_nil⟩⟩⟩⟩⟩⟩⟩⟩⟩⟩⟩⟩⟩⟩⟩⟩
theorem lw_p96 : lw_okq (⟨"BeastCaveModel", "isBeast", "(I)Z"⟩, 50) := ⟨⟨by decide +kernel, by decide +kernel⟩, List.mem_of_getElem? (i := 1363) (by decide +kernel), List.mem_of_getElem? (i := 1796) (by decide +kernel), List.mem_of_getElem? (i := 1797) (by decide +kernel)⟩
theorem lw_p97 : lw_okq (⟨"BeastCaveModel", "whoIs", "(I)I"⟩, 50) := ⟨⟨by decide +kernel, by decide +kernel⟩, List.mem_of_getElem? (i := 1363) (by decide +kernel), List.mem_of_getElem? (i := 1804) (by decide +kernel), List.mem_of_getElem? (i := 1805) (by decide +kernel)⟩
theorem lw_p98 : lw_okq (⟨"BeastCaveModel", "orNone", "(I)I"⟩, 50) := ⟨⟨by decide +kernel, by decide +kernel⟩, List.mem_of_getElem? (i := 1363) (by decide +kernel), List.mem_of_getElem? (i := 1808) (by decide +kernel), List.mem_of_getElem? (i := 1809) (by decide +kernel)⟩
theorem lw_p99 : lw_okq (⟨"BeastCaveModel", "isFigure", "(I)Z"⟩, 50) := ⟨⟨by decide +kernel, by decide +kernel⟩, List.mem_of_getElem? (i := 1363) (by decide +kernel), List.mem_of_getElem? (i := 1816) (by decide +kernel), List.mem_of_getElem? (i := 1817) (by decide +kernel)⟩
theorem lw_p100 : lw_okq (⟨"BeastCaveModel", "figureOf", "(II)I"⟩, 50) := ⟨⟨by decide +kernel, by decide +kernel⟩, List.mem_of_getElem? (i := 1363) (by decide +kernel), List.mem_of_getElem? (i := 1820) (by decide +kernel), List.mem_of_getElem? (i := 1821) (by decide +kernel)⟩
theorem lw_p101 : lw_okq (⟨"BeastCaveModel", "weightOf", "(II)I"⟩, 50) := ⟨⟨by decide +kernel, by decide +kernel⟩, List.mem_of_getElem? (i := 1363) (by decide +kernel), List.mem_of_getElem? (i := 1828) (by decide +kernel), List.mem_of_getElem? (i := 1829) (by decide +kernel)⟩
theorem lw_p102 : lw_okq (⟨"BeastCaveModel", "minutesGo", "(I)I"⟩, 50) := ⟨⟨by decide +kernel, by decide +kernel⟩, List.mem_of_getElem? (i := 1363) (by decide +kernel), List.mem_of_getElem? (i := 1840) (by decide +kernel), List.mem_of_getElem? (i := 1841) (by decide +kernel)⟩
theorem lw_p103 : lw_okq (⟨"BeastCaveModel", "minuteGoes", "()I"⟩, 50) := ⟨⟨by decide +kernel, by decide +kernel⟩, List.mem_of_getElem? (i := 1363) (by decide +kernel), List.mem_of_getElem? (i := 1844) (by decide +kernel), List.mem_of_getElem? (i := 1845) (by decide +kernel)⟩
theorem lw_p104 : lw_okq (⟨"BeastCaveModel", "looksAt", "(II)V"⟩, 50) := ⟨⟨by decide +kernel, by decide +kernel⟩, List.mem_of_getElem? (i := 1363) (by decide +kernel), List.mem_of_getElem? (i := 1848) (by decide +kernel), List.mem_of_getElem? (i := 1849) (by decide +kernel)⟩
theorem lw_p105 : lw_okq (⟨"BeastCaveModel", "leads", "(II)Z"⟩, 50) := ⟨⟨by decide +kernel, by decide +kernel⟩, List.mem_of_getElem? (i := 1363) (by decide +kernel), List.mem_of_getElem? (i := 1860) (by decide +kernel), List.mem_of_getElem? (i := 1861) (by decide +kernel)⟩
theorem lw_p106 : lw_okq (⟨"BeastCaveModel", "wayOf", "(II)I"⟩, 50) := ⟨⟨by decide +kernel, by decide +kernel⟩, List.mem_of_getElem? (i := 1363) (by decide +kernel), List.mem_of_getElem? (i := 1864) (by decide +kernel), List.mem_of_getElem? (i := 1865) (by decide +kernel)⟩
theorem lw_p107 : lw_okq (⟨"BeastCaveModel", "wakes", "(I)Z"⟩, 50) := ⟨⟨by decide +kernel, by decide +kernel⟩, List.mem_of_getElem? (i := 1363) (by decide +kernel), List.mem_of_getElem? (i := 1873) (by decide +kernel), List.mem_of_getElem? (i := 1874) (by decide +kernel)⟩
theorem lw_p108 : lw_okq (⟨"BeastCaveModel", "fills", "(I)Z"⟩, 50) := ⟨⟨by decide +kernel, by decide +kernel⟩, List.mem_of_getElem? (i := 1363) (by decide +kernel), List.mem_of_getElem? (i := 1882) (by decide +kernel), List.mem_of_getElem? (i := 1883) (by decide +kernel)⟩
theorem lw_p109 : lw_okq (⟨"BeastCaveModel", "isIn", "(II)Z"⟩, 50) := ⟨⟨by decide +kernel, by decide +kernel⟩, List.mem_of_getElem? (i := 1363) (by decide +kernel), List.mem_of_getElem? (i := 1908) (by decide +kernel), List.mem_of_getElem? (i := 1909) (by decide +kernel)⟩
theorem lw_p110 : lw_okq (⟨"BeastCaveModel", "keeps", "(I)V"⟩, 50) := ⟨⟨by decide +kernel, by decide +kernel⟩, List.mem_of_getElem? (i := 1363) (by decide +kernel), List.mem_of_getElem? (i := 1925) (by decide +kernel), List.mem_of_getElem? (i := 1926) (by decide +kernel)⟩
theorem lw_p111 : lw_okq (⟨"BeastCaveModel", "restores", "(I)V"⟩, 50) := ⟨⟨by decide +kernel, by decide +kernel⟩, List.mem_of_getElem? (i := 1363) (by decide +kernel), List.mem_of_getElem? (i := 1929) (by decide +kernel), List.mem_of_getElem? (i := 1930) (by decide +kernel)⟩
def lw_privs_7 : List (MethodName × Nat) := [(⟨"BeastCaveModel", "isBeast", "(I)Z"⟩, 50), (⟨"BeastCaveModel", "whoIs", "(I)I"⟩, 50), (⟨"BeastCaveModel", "orNone", "(I)I"⟩, 50), (⟨"BeastCaveModel", "isFigure", "(I)Z"⟩, 50), (⟨"BeastCaveModel", "figureOf", "(II)I"⟩, 50), (⟨"BeastCaveModel", "weightOf", "(II)I"⟩, 50), (⟨"BeastCaveModel", "minutesGo", "(I)I"⟩, 50), (⟨"BeastCaveModel", "minuteGoes", "()I"⟩, 50), (⟨"BeastCaveModel", "looksAt", "(II)V"⟩, 50), (⟨"BeastCaveModel", "leads", "(II)Z"⟩, 50), (⟨"BeastCaveModel", "wayOf", "(II)I"⟩, 50), (⟨"BeastCaveModel", "wakes", "(I)Z"⟩, 50), (⟨"BeastCaveModel", "fills", "(I)Z"⟩, 50), (⟨"BeastCaveModel", "isIn", "(II)Z"⟩, 50), (⟨"BeastCaveModel", "keeps", "(I)V"⟩, 50), (⟨"BeastCaveModel", "restores", "(I)V"⟩, 50)]
theorem lw_r7 : ∀ q ∈ lw_privs_7, lw_okq q := List.forall_mem_cons.mpr ⟨lw_p96, List.forall_mem_cons.mpr ⟨lw_p97, List.forall_mem_cons.mpr ⟨lw_p98, List.forall_mem_cons.mpr ⟨lw_p99, List.forall_mem_cons.mpr ⟨lw_p100, List.forall_mem_cons.mpr ⟨lw_p101, List.forall_mem_cons.mpr ⟨lw_p102, List.forall_mem_cons.mpr ⟨lw_p103, List.forall_mem_cons.mpr ⟨lw_p104, List.forall_mem_cons.mpr ⟨lw_p105, List.forall_mem_cons.mpr ⟨lw_p106, List.forall_mem_cons.mpr ⟨lw_p107, List.forall_mem_cons.mpr ⟨lw_p108, List.forall_mem_cons.mpr ⟨lw_p109, List.forall_mem_cons.mpr ⟨lw_p110, List.forall_mem_cons.mpr ⟨lw_p111, fun _ h => absurd h List.not_mem_nil⟩⟩⟩⟩⟩⟩⟩⟩⟩⟩⟩⟩⟩⟩⟩⟩
theorem lw_p112 : lw_okq (⟨"BeastCaveModel", "laysFar", "()V"⟩, 50) := ⟨⟨by decide +kernel, by decide +kernel⟩, List.mem_of_getElem? (i := 1363) (by decide +kernel), List.mem_of_getElem? (i := 1953) (by decide +kernel), List.mem_of_getElem? (i := 1954) (by decide +kernel)⟩
theorem lw_p113 : lw_okq (⟨"BeastCaveModel", "wrongTour", "(III)I"⟩, 50) := ⟨⟨by decide +kernel, by decide +kernel⟩, List.mem_of_getElem? (i := 1363) (by decide +kernel), List.mem_of_getElem? (i := 1965) (by decide +kernel), List.mem_of_getElem? (i := 1966) (by decide +kernel)⟩
theorem lw_p114 : lw_okq (⟨"BeastCaveModel", "laysTour", "(III)V"⟩, 50) := ⟨⟨by decide +kernel, by decide +kernel⟩, List.mem_of_getElem? (i := 1363) (by decide +kernel), List.mem_of_getElem? (i := 1969) (by decide +kernel), List.mem_of_getElem? (i := 1970) (by decide +kernel)⟩
theorem lw_p115 : lw_okq (⟨"BeastCaveModel", "isTried", "(I)Z"⟩, 50) := ⟨⟨by decide +kernel, by decide +kernel⟩, List.mem_of_getElem? (i := 1363) (by decide +kernel), List.mem_of_getElem? (i := 1976) (by decide +kernel), List.mem_of_getElem? (i := 1977) (by decide +kernel)⟩
theorem lw_p116 : lw_okq (⟨"BeastCaveModel", "visits", "(III)Z"⟩, 50) := ⟨⟨by decide +kernel, by decide +kernel⟩, List.mem_of_getElem? (i := 1363) (by decide +kernel), List.mem_of_getElem? (i := 1980) (by decide +kernel), List.mem_of_getElem? (i := 1981) (by decide +kernel)⟩
theorem lw_p117 : lw_okq (⟨"BeastCaveModel", "laysLayers", "()I"⟩, 50) := ⟨⟨by decide +kernel, by decide +kernel⟩, List.mem_of_getElem? (i := 1363) (by decide +kernel), List.mem_of_getElem? (i := 1992) (by decide +kernel), List.mem_of_getElem? (i := 1993) (by decide +kernel)⟩
theorem lw_p118 : lw_okq (⟨"BeastCaveModel", "mayCome", "(II)Z"⟩, 50) := ⟨⟨by decide +kernel, by decide +kernel⟩, List.mem_of_getElem? (i := 1363) (by decide +kernel), List.mem_of_getElem? (i := 1996) (by decide +kernel), List.mem_of_getElem? (i := 1997) (by decide +kernel)⟩
theorem lw_p119 : lw_okq (⟨"BeastCaveModel", "isHand", "(II)Z"⟩, 50) := ⟨⟨by decide +kernel, by decide +kernel⟩, List.mem_of_getElem? (i := 1363) (by decide +kernel), List.mem_of_getElem? (i := 2013) (by decide +kernel), List.mem_of_getElem? (i := 2014) (by decide +kernel)⟩
theorem lw_p120 : lw_okq (⟨"BeastCaveModel", "differ", "(II)I"⟩, 50) := ⟨⟨by decide +kernel, by decide +kernel⟩, List.mem_of_getElem? (i := 1363) (by decide +kernel), List.mem_of_getElem? (i := 2017) (by decide +kernel), List.mem_of_getElem? (i := 2018) (by decide +kernel)⟩
theorem lw_p121 : lw_okq (⟨"BeastCaveModel", "laysRows", "(I)V"⟩, 50) := ⟨⟨by decide +kernel, by decide +kernel⟩, List.mem_of_getElem? (i := 1363) (by decide +kernel), List.mem_of_getElem? (i := 2030) (by decide +kernel), List.mem_of_getElem? (i := 2031) (by decide +kernel)⟩
theorem lw_p122 : lw_okq (⟨"BeastCaveModel", "laysLikeliest", "(I)I"⟩, 50) := ⟨⟨by decide +kernel, by decide +kernel⟩, List.mem_of_getElem? (i := 1363) (by decide +kernel), List.mem_of_getElem? (i := 2043) (by decide +kernel), List.mem_of_getElem? (i := 2044) (by decide +kernel)⟩
theorem lw_p123 : lw_okq (⟨"BeastCaveModel", "wrongSeen", "(III)I"⟩, 50) := ⟨⟨by decide +kernel, by decide +kernel⟩, List.mem_of_getElem? (i := 1363) (by decide +kernel), List.mem_of_getElem? (i := 2055) (by decide +kernel), List.mem_of_getElem? (i := 2056) (by decide +kernel)⟩
theorem lw_p124 : lw_okq (⟨"BeastCaveModel", "laysFits", "(III)V"⟩, 50) := ⟨⟨by decide +kernel, by decide +kernel⟩, List.mem_of_getElem? (i := 1363) (by decide +kernel), List.mem_of_getElem? (i := 2060) (by decide +kernel), List.mem_of_getElem? (i := 2061) (by decide +kernel)⟩
theorem lw_p125 : lw_okq (⟨"BeastCaveModel", "wouldBe", "(II)I"⟩, 50) := ⟨⟨by decide +kernel, by decide +kernel⟩, List.mem_of_getElem? (i := 1363) (by decide +kernel), List.mem_of_getElem? (i := 2064) (by decide +kernel), List.mem_of_getElem? (i := 2065) (by decide +kernel)⟩
theorem lw_p126 : lw_okq (⟨"BeastCaveModel", "mostAlike", "(I)I"⟩, 50) := ⟨⟨by decide +kernel, by decide +kernel⟩, List.mem_of_getElem? (i := 1363) (by decide +kernel), List.mem_of_getElem? (i := 2076) (by decide +kernel), List.mem_of_getElem? (i := 2077) (by decide +kernel)⟩
theorem lw_p127 : lw_okq (⟨"BeastCaveModel", "playing", "(II)I"⟩, 50) := ⟨⟨by decide +kernel, by decide +kernel⟩, List.mem_of_getElem? (i := 1363) (by decide +kernel), List.mem_of_getElem? (i := 2085) (by decide +kernel), List.mem_of_getElem? (i := 2086) (by decide +kernel)⟩
def lw_privs_8 : List (MethodName × Nat) := [(⟨"BeastCaveModel", "laysFar", "()V"⟩, 50), (⟨"BeastCaveModel", "wrongTour", "(III)I"⟩, 50), (⟨"BeastCaveModel", "laysTour", "(III)V"⟩, 50), (⟨"BeastCaveModel", "isTried", "(I)Z"⟩, 50), (⟨"BeastCaveModel", "visits", "(III)Z"⟩, 50), (⟨"BeastCaveModel", "laysLayers", "()I"⟩, 50), (⟨"BeastCaveModel", "mayCome", "(II)Z"⟩, 50), (⟨"BeastCaveModel", "isHand", "(II)Z"⟩, 50), (⟨"BeastCaveModel", "differ", "(II)I"⟩, 50), (⟨"BeastCaveModel", "laysRows", "(I)V"⟩, 50), (⟨"BeastCaveModel", "laysLikeliest", "(I)I"⟩, 50), (⟨"BeastCaveModel", "wrongSeen", "(III)I"⟩, 50), (⟨"BeastCaveModel", "laysFits", "(III)V"⟩, 50), (⟨"BeastCaveModel", "wouldBe", "(II)I"⟩, 50), (⟨"BeastCaveModel", "mostAlike", "(I)I"⟩, 50), (⟨"BeastCaveModel", "playing", "(II)I"⟩, 50)]
theorem lw_r8 : ∀ q ∈ lw_privs_8, lw_okq q := List.forall_mem_cons.mpr ⟨lw_p112, List.forall_mem_cons.mpr ⟨lw_p113, List.forall_mem_cons.mpr ⟨lw_p114, List.forall_mem_cons.mpr ⟨lw_p115, List.forall_mem_cons.mpr ⟨lw_p116, List.forall_mem_cons.mpr ⟨lw_p117, List.forall_mem_cons.mpr ⟨lw_p118, List.forall_mem_cons.mpr ⟨lw_p119, List.forall_mem_cons.mpr ⟨lw_p120, List.forall_mem_cons.mpr ⟨lw_p121, List.forall_mem_cons.mpr ⟨lw_p122, List.forall_mem_cons.mpr ⟨lw_p123, List.forall_mem_cons.mpr ⟨lw_p124, List.forall_mem_cons.mpr ⟨lw_p125, List.forall_mem_cons.mpr ⟨lw_p126, List.forall_mem_cons.mpr ⟨lw_p127, fun _ h => absurd h List.not_mem_nil⟩⟩⟩⟩⟩⟩⟩⟩⟩⟩⟩⟩⟩⟩⟩⟩
theorem lw_p128 : lw_okq (⟨"BeastCaveModel", "standing", "(I)I"⟩, 50) := ⟨⟨by decide +kernel, by decide +kernel⟩, List.mem_of_getElem? (i := 1363) (by decide +kernel), List.mem_of_getElem? (i := 2089) (by decide +kernel), List.mem_of_getElem? (i := 2090) (by decide +kernel)⟩
theorem lw_p129 : lw_okq (⟨"BeastCaveModel", "settles", "(II)V"⟩, 50) := ⟨⟨by decide +kernel, by decide +kernel⟩, List.mem_of_getElem? (i := 1363) (by decide +kernel), List.mem_of_getElem? (i := 2093) (by decide +kernel), List.mem_of_getElem? (i := 2094) (by decide +kernel)⟩
theorem lw_p130 : lw_okq (⟨"BeastCaveModel", "doesDeed", "(IIZ)Z"⟩, 50) := ⟨⟨by decide +kernel, by decide +kernel⟩, List.mem_of_getElem? (i := 1363) (by decide +kernel), List.mem_of_getElem? (i := 2097) (by decide +kernel), List.mem_of_getElem? (i := 2098) (by decide +kernel)⟩
theorem lw_p131 : lw_okq (⟨"BeastCaveModel", "tellsBy", "(JJ)Z"⟩, 50) := ⟨⟨by decide +kernel, by decide +kernel⟩, List.mem_of_getElem? (i := 1363) (by decide +kernel), List.mem_of_getElem? (i := 2109) (by decide +kernel), List.mem_of_getElem? (i := 2110) (by decide +kernel)⟩
theorem lw_p132 : lw_okq (⟨"BeastCaveModel", "lives", "(I)V"⟩, 50) := ⟨⟨by decide +kernel, by decide +kernel⟩, List.mem_of_getElem? (i := 1363) (by decide +kernel), List.mem_of_getElem? (i := 2122) (by decide +kernel), List.mem_of_getElem? (i := 2123) (by decide +kernel)⟩
theorem lw_p133 : lw_okq (⟨"BeastCaveModel", "does", "(I)Z"⟩, 50) := ⟨⟨by decide +kernel, by decide +kernel⟩, List.mem_of_getElem? (i := 1363) (by decide +kernel), List.mem_of_getElem? (i := 2126) (by decide +kernel), List.mem_of_getElem? (i := 2127) (by decide +kernel)⟩
theorem lw_p134 : lw_okq (⟨"BeastCaveModel", "minutesBy", "(I)Z"⟩, 50) := ⟨⟨by decide +kernel, by decide +kernel⟩, List.mem_of_getElem? (i := 1363) (by decide +kernel), List.mem_of_getElem? (i := 2130) (by decide +kernel), List.mem_of_getElem? (i := 2131) (by decide +kernel)⟩
theorem lw_p135 : lw_okq (⟨"BeastCaveModel", "leadsBy", "(II)Z"⟩, 50) := ⟨⟨by decide +kernel, by decide +kernel⟩, List.mem_of_getElem? (i := 1363) (by decide +kernel), List.mem_of_getElem? (i := 2134) (by decide +kernel), List.mem_of_getElem? (i := 2135) (by decide +kernel)⟩
theorem lw_p136 : lw_okq (⟨"BeastCaveModel", "leadsAny", "()Z"⟩, 50) := ⟨⟨by decide +kernel, by decide +kernel⟩, List.mem_of_getElem? (i := 1363) (by decide +kernel), List.mem_of_getElem? (i := 2138) (by decide +kernel), List.mem_of_getElem? (i := 2139) (by decide +kernel)⟩
theorem lw_p137 : lw_okq (⟨"BeastCaveModel", "drawing", "(I)I"⟩, 50) := ⟨⟨by decide +kernel, by decide +kernel⟩, List.mem_of_getElem? (i := 1363) (by decide +kernel), List.mem_of_getElem? (i := 2142) (by decide +kernel), List.mem_of_getElem? (i := 2143) (by decide +kernel)⟩
theorem lw_p138 : lw_okq (⟨"BeastCaveModel", "holds", "(I)Z"⟩, 50) := ⟨⟨by decide +kernel, by decide +kernel⟩, List.mem_of_getElem? (i := 1363) (by decide +kernel), List.mem_of_getElem? (i := 2147) (by decide +kernel), List.mem_of_getElem? (i := 2148) (by decide +kernel)⟩
theorem lw_p139 : lw_okq (⟨"BeastCaveModel", "behindEnds", "(I)I"⟩, 50) := ⟨⟨by decide +kernel, by decide +kernel⟩, List.mem_of_getElem? (i := 1363) (by decide +kernel), List.mem_of_getElem? (i := 2151) (by decide +kernel), List.mem_of_getElem? (i := 2152) (by decide +kernel)⟩
theorem lw_p140 : lw_okq (⟨"BeastCaveModel", "copies", "(II)V"⟩, 50) := ⟨⟨by decide +kernel, by decide +kernel⟩, List.mem_of_getElem? (i := 1363) (by decide +kernel), List.mem_of_getElem? (i := 2167) (by decide +kernel), List.mem_of_getElem? (i := 2168) (by decide +kernel)⟩
def lw_privs_9 : List (MethodName × Nat) := [(⟨"BeastCaveModel", "standing", "(I)I"⟩, 50), (⟨"BeastCaveModel", "settles", "(II)V"⟩, 50), (⟨"BeastCaveModel", "doesDeed", "(IIZ)Z"⟩, 50), (⟨"BeastCaveModel", "tellsBy", "(JJ)Z"⟩, 50), (⟨"BeastCaveModel", "lives", "(I)V"⟩, 50), (⟨"BeastCaveModel", "does", "(I)Z"⟩, 50), (⟨"BeastCaveModel", "minutesBy", "(I)Z"⟩, 50), (⟨"BeastCaveModel", "leadsBy", "(II)Z"⟩, 50), (⟨"BeastCaveModel", "leadsAny", "()Z"⟩, 50), (⟨"BeastCaveModel", "drawing", "(I)I"⟩, 50), (⟨"BeastCaveModel", "holds", "(I)Z"⟩, 50), (⟨"BeastCaveModel", "behindEnds", "(I)I"⟩, 50), (⟨"BeastCaveModel", "copies", "(II)V"⟩, 50)]
theorem lw_r9 : ∀ q ∈ lw_privs_9, lw_okq q := List.forall_mem_cons.mpr ⟨lw_p128, List.forall_mem_cons.mpr ⟨lw_p129, List.forall_mem_cons.mpr ⟨lw_p130, List.forall_mem_cons.mpr ⟨lw_p131, List.forall_mem_cons.mpr ⟨lw_p132, List.forall_mem_cons.mpr ⟨lw_p133, List.forall_mem_cons.mpr ⟨lw_p134, List.forall_mem_cons.mpr ⟨lw_p135, List.forall_mem_cons.mpr ⟨lw_p136, List.forall_mem_cons.mpr ⟨lw_p137, List.forall_mem_cons.mpr ⟨lw_p138, List.forall_mem_cons.mpr ⟨lw_p139, List.forall_mem_cons.mpr ⟨lw_p140, fun _ h => absurd h List.not_mem_nil⟩⟩⟩⟩⟩⟩⟩⟩⟩⟩⟩⟩⟩
def lw_privs : List (MethodName × Nat) := lw_privs_1 ++ (lw_privs_2 ++ (lw_privs_3 ++ (lw_privs_4 ++ (lw_privs_5 ++ (lw_privs_6 ++ (lw_privs_7 ++ (lw_privs_8 ++ (lw_privs_9))))))))
def lw_tbl : List Cond := k2_sels lw_privs ++ tables_1
theorem lw_privs_ok : ∀ q ∈ lw_privs, lw_okq q := by
  show ∀ q ∈ lw_privs_1 ++ (lw_privs_2 ++ (lw_privs_3 ++ (lw_privs_4 ++ (lw_privs_5 ++ (lw_privs_6 ++ (lw_privs_7 ++ (lw_privs_8 ++ (lw_privs_9)))))))), lw_okq q
  exact List.forall_mem_append.mpr ⟨lw_r1, List.forall_mem_append.mpr ⟨lw_r2, List.forall_mem_append.mpr ⟨lw_r3, List.forall_mem_append.mpr ⟨lw_r4, List.forall_mem_append.mpr ⟨lw_r5, List.forall_mem_append.mpr ⟨lw_r6, List.forall_mem_append.mpr ⟨lw_r7, List.forall_mem_append.mpr ⟨lw_r8, lw_r9⟩⟩⟩⟩⟩⟩⟩⟩
end
section
def RX0 : String := "BeastCave$Ahead"
def TX0 : u_T := fun k => match k with
  | 0 => ("BeastCave$Ahead", "row", "[I", true)
  | 1 => ("BeastCave$Ahead", "most", "[I", true)
  | _ => ("BeastCave$Ahead", "first", "[I", true)
def tyX0 : Nat → FieldType := fun k => match k with
  | 0 => .array .int
  | 1 => .array .int
  | _ => .array .int
abbrev wsX00 : List Cond := u_ws RX0 TX0 3
theorem nmX0 : ∀ a, a < 3 → ∀ b, b < 3 → a ≠ b → (TX0 a).2.1 ≠ (TX0 b).2.1 := by decide +kernel
theorem tyX0_ok : ∀ k, k < 3 → parseFieldDescriptor (TX0 k).2.2.1 = some (tyX0 k) := by decide +kernel
def RX1 : String := "BeastCave$Beasts"
def TX1 : u_T := fun k => match k with
  | 0 => ("BeastCave$Beasts", "count", "I", false)
  | _ => ("BeastCave$Beasts", "weights", "[I", true)
def tyX1 : Nat → FieldType := fun k => match k with
  | 0 => .int
  | _ => .array .int
abbrev wsX10 : List Cond := u_ws RX1 TX1 2
theorem nmX1 : ∀ a, a < 2 → ∀ b, b < 2 → a ≠ b → (TX1 a).2.1 ≠ (TX1 b).2.1 := by decide +kernel
theorem tyX1_ok : ∀ k, k < 2 → parseFieldDescriptor (TX1 k).2.2.1 = some (tyX1 k) := by decide +kernel
def RX2 : String := "BeastCave$Cave"
def TX2 : u_T := fun k => match k with
  | 0 => ("BeastCave$Cave", "lamp", "I", false)
  | 1 => ("BeastCave$Cave", "odds", "I", false)
  | 2 => ("BeastCave$Cave", "minutes", "I", false)
  | 3 => ("BeastCave$Cave", "visitors", "I", false)
  | 4 => ("BeastCave$Cave", "beasts", "LBeastCave$Beasts;", true)
  | 5 => ("BeastCave$Cave", "walls", "LBeastCave$Walls;", true)
  | 6 => ("BeastCave$Cave", "figures", "LBeastCave$Figures;", true)
  | 7 => ("BeastCave$Cave", "selves", "[I", true)
  | 8 => ("BeastCave$Cave", "places", "[I", true)
  | 9 => ("BeastCave$Cave", "toGo", "[I", true)
  | 10 => ("BeastCave$Cave", "measures", "[I", true)
  | 11 => ("BeastCave$Cave", "names", "I", false)
  | 12 => ("BeastCave$Cave", "nameCodes", "[J", true)
  | 13 => ("BeastCave$Cave", "nameKinds", "[I", true)
  | _ => ("BeastCave$Cave", "nameNumbers", "[I", true)
def tyX2 : Nat → FieldType := fun k => match k with
  | 0 => .int
  | 1 => .int
  | 2 => .int
  | 3 => .int
  | 4 => .object "BeastCave$Beasts"
  | 5 => .object "BeastCave$Walls"
  | 6 => .object "BeastCave$Figures"
  | 7 => .array .int
  | 8 => .array .int
  | 9 => .array .int
  | 10 => .array .int
  | 11 => .int
  | 12 => .array .long
  | 13 => .array .int
  | _ => .array .int
abbrev wsX20 : List Cond := u_ws RX2 TX2 15
theorem nmX2 : ∀ a, a < 15 → ∀ b, b < 15 → a ≠ b → (TX2 a).2.1 ≠ (TX2 b).2.1 := by decide +kernel
theorem tyX2_ok : ∀ k, k < 15 → parseFieldDescriptor (TX2 k).2.2.1 = some (tyX2 k) := by decide +kernel
def RX3 : String := "BeastCave$Days"
def TX3 : u_T := fun k => match k with
  | 0 => ("BeastCave$Days", "isTold", "Z", false)
  | 1 => ("BeastCave$Days", "steps", "I", false)
  | 2 => ("BeastCave$Days", "lines", "I", false)
  | 3 => ("BeastCave$Days", "kinds", "[I", true)
  | 4 => ("BeastCave$Days", "tests", "[I", true)
  | 5 => ("BeastCave$Days", "visitors", "[I", true)
  | 6 => ("BeastCave$Days", "numbers", "[I", true)
  | _ => ("BeastCave$Days", "partners", "[I", true)
def tyX3 : Nat → FieldType := fun k => match k with
  | 0 => .boolean
  | 1 => .int
  | 2 => .int
  | 3 => .array .int
  | 4 => .array .int
  | 5 => .array .int
  | 6 => .array .int
  | _ => .array .int
abbrev wsX30 : List Cond := u_ws RX3 TX3 8
theorem nmX3 : ∀ a, a < 8 → ∀ b, b < 8 → a ≠ b → (TX3 a).2.1 ≠ (TX3 b).2.1 := by decide +kernel
theorem tyX3_ok : ∀ k, k < 8 → parseFieldDescriptor (TX3 k).2.2.1 = some (tyX3 k) := by decide +kernel
def RX4 : String := "BeastCave$Figures"
def TX4 : u_T := fun k => match k with
  | 0 => ("BeastCave$Figures", "count", "I", false)
  | 1 => ("BeastCave$Figures", "beast", "[I", true)
  | 2 => ("BeastCave$Figures", "style", "[I", true)
  | 3 => ("BeastCave$Figures", "other", "[I", true)
  | _ => ("BeastCave$Figures", "over", "[I", true)
def tyX4 : Nat → FieldType := fun k => match k with
  | 0 => .int
  | 1 => .array .int
  | 2 => .array .int
  | 3 => .array .int
  | _ => .array .int
abbrev wsX40 : List Cond := u_ws RX4 TX4 5
theorem nmX4 : ∀ a, a < 5 → ∀ b, b < 5 → a ≠ b → (TX4 a).2.1 ≠ (TX4 b).2.1 := by decide +kernel
theorem tyX4_ok : ∀ k, k < 5 → parseFieldDescriptor (TX4 k).2.2.1 = some (tyX4 k) := by decide +kernel
def RX5 : String := "BeastCave$Life"
def TX5 : u_T := fun k => match k with
  | 0 => ("BeastCave$Life", "steps", "I", false)
  | 1 => ("BeastCave$Life", "missed", "I", false)
  | 2 => ("BeastCave$Life", "minutes", "I", false)
  | 3 => ("BeastCave$Life", "led", "I", false)
  | 4 => ("BeastCave$Life", "turned", "I", false)
  | 5 => ("BeastCave$Life", "left", "I", false)
  | 6 => ("BeastCave$Life", "cave", "LBeastCave$Cave;", false)
  | 7 => ("BeastCave$Life", "days", "LBeastCave$Days;", false)
  | 8 => ("BeastCave$Life", "seed", "I", false)
  | _ => ("BeastCave$Life", "rounds", "[I", true)
def tyX5 : Nat → FieldType := fun k => match k with
  | 0 => .int
  | 1 => .int
  | 2 => .int
  | 3 => .int
  | 4 => .int
  | 5 => .int
  | 6 => .object "BeastCave$Cave"
  | 7 => .object "BeastCave$Days"
  | 8 => .int
  | _ => .array .int
abbrev wsX50 : List Cond := u_ws RX5 TX5 10
theorem nmX5 : ∀ a, a < 10 → ∀ b, b < 10 → a ≠ b → (TX5 a).2.1 ≠ (TX5 b).2.1 := by decide +kernel
theorem tyX5_ok : ∀ k, k < 10 → parseFieldDescriptor (TX5 k).2.2.1 = some (tyX5 k) := by decide +kernel
def RX6 : String := "BeastCave$Reader"
def TX6 : u_T := fun k => match k with
  | 0 => ("BeastCave$Reader", "text", "LBeastCave$Text;", true)
  | 1 => ("BeastCave$Reader", "cave", "LBeastCave$Cave;", false)
  | 2 => ("BeastCave$Reader", "days", "LBeastCave$Days;", false)
  | 3 => ("BeastCave$Reader", "lampTold", "Z", false)
  | 4 => ("BeastCave$Reader", "oddsTold", "Z", false)
  | 5 => ("BeastCave$Reader", "found", "[I", true)
  | 6 => ("BeastCave$Reader", "depth", "I", false)
  | 7 => ("BeastCave$Reader", "open", "[I", true)
  | _ => ("BeastCave$Reader", "test", "I", false)
def tyX6 : Nat → FieldType := fun k => match k with
  | 0 => .object "BeastCave$Text"
  | 1 => .object "BeastCave$Cave"
  | 2 => .object "BeastCave$Days"
  | 3 => .boolean
  | 4 => .boolean
  | 5 => .array .int
  | 6 => .int
  | 7 => .array .int
  | _ => .int
abbrev wsX60 : List Cond := u_ws RX6 TX6 9
theorem nmX6 : ∀ a, a < 9 → ∀ b, b < 9 → a ≠ b → (TX6 a).2.1 ≠ (TX6 b).2.1 := by decide +kernel
theorem tyX6_ok : ∀ k, k < 9 → parseFieldDescriptor (TX6 k).2.2.1 = some (tyX6 k) := by decide +kernel
def RX7 : String := "BeastCave$Search"
def TX7 : u_T := fun k => match k with
  | 0 => ("BeastCave$Search", "bestTime", "I", false)
  | 1 => ("BeastCave$Search", "bestOrder", "[I", true)
  | 2 => ("BeastCave$Search", "firstMove", "I", false)
  | 3 => ("BeastCave$Search", "order", "[I", true)
  | 4 => ("BeastCave$Search", "rows", "[I", true)
  | 5 => ("BeastCave$Search", "pulls", "[I", true)
  | 6 => ("BeastCave$Search", "walls", "LBeastCave$Walls;", false)
  | 7 => ("BeastCave$Search", "self", "I", false)
  | 8 => ("BeastCave$Search", "lamp", "I", false)
  | 9 => ("BeastCave$Search", "stay", "I", false)
  | _ => ("BeastCave$Search", "turns", "I", false)
def tyX7 : Nat → FieldType := fun k => match k with
  | 0 => .int
  | 1 => .array .int
  | 2 => .int
  | 3 => .array .int
  | 4 => .array .int
  | 5 => .array .int
  | 6 => .object "BeastCave$Walls"
  | 7 => .int
  | 8 => .int
  | 9 => .int
  | _ => .int
abbrev wsX70 : List Cond := u_ws RX7 TX7 11
theorem nmX7 : ∀ a, a < 11 → ∀ b, b < 11 → a ≠ b → (TX7 a).2.1 ≠ (TX7 b).2.1 := by decide +kernel
theorem tyX7_ok : ∀ k, k < 11 → parseFieldDescriptor (TX7 k).2.2.1 = some (tyX7 k) := by decide +kernel
def RX8 : String := "BeastCave$Text"
def TX8 : u_T := fun k => match k with
  | 0 => ("BeastCave$Text", "size", "I", false)
  | 1 => ("BeastCave$Text", "fault", "I", false)
  | 2 => ("BeastCave$Text", "faultPlace", "I", false)
  | 3 => ("BeastCave$Text", "number", "I", false)
  | 4 => ("BeastCave$Text", "keyword", "I", false)
  | 5 => ("BeastCave$Text", "code", "J", false)
  | 6 => ("BeastCave$Text", "sign", "I", false)
  | 7 => ("BeastCave$Text", "tape", "[B", true)
  | 8 => ("BeastCave$Text", "reservedCodes", "[J", true)
  | 9 => ("BeastCave$Text", "end", "I", false)
  | 10 => ("BeastCave$Text", "next", "I", false)
  | 11 => ("BeastCave$Text", "place", "I", false)
  | 12 => ("BeastCave$Text", "sort", "I", false)
  | 13 => ("BeastCave$Text", "letters", "I", false)
  | _ => ("BeastCave$Text", "value", "I", false)
def tyX8 : Nat → FieldType := fun k => match k with
  | 0 => .int
  | 1 => .int
  | 2 => .int
  | 3 => .int
  | 4 => .int
  | 5 => .long
  | 6 => .int
  | 7 => .array .byte
  | 8 => .array .long
  | 9 => .int
  | 10 => .int
  | 11 => .int
  | 12 => .int
  | 13 => .int
  | _ => .int
abbrev wsX80 : List Cond := u_ws RX8 TX8 15
theorem nmX8 : ∀ a, a < 15 → ∀ b, b < 15 → a ≠ b → (TX8 a).2.1 ≠ (TX8 b).2.1 := by decide +kernel
theorem tyX8_ok : ∀ k, k < 15 → parseFieldDescriptor (TX8 k).2.2.1 = some (tyX8 k) := by decide +kernel
def RX9 : String := "BeastCave$Trays"
def TX9 : u_T := fun k => match k with
  | 0 => ("BeastCave$Trays", "sorts", "[I", true)
  | 1 => ("BeastCave$Trays", "sizes", "[I", true)
  | _ => ("BeastCave$Trays", "cells", "[J", true)
def tyX9 : Nat → FieldType := fun k => match k with
  | 0 => .array .int
  | 1 => .array .int
  | _ => .array .long
abbrev wsX90 : List Cond := u_ws RX9 TX9 3
theorem nmX9 : ∀ a, a < 3 → ∀ b, b < 3 → a ≠ b → (TX9 a).2.1 ≠ (TX9 b).2.1 := by decide +kernel
theorem tyX9_ok : ∀ k, k < 3 → parseFieldDescriptor (TX9 k).2.2.1 = some (tyX9 k) := by decide +kernel
def RX10 : String := "BeastCave$Walls"
def TX10 : u_T := fun k => match k with
  | 0 => ("BeastCave$Walls", "count", "I", false)
  | 1 => ("BeastCave$Walls", "ways", "I", false)
  | 2 => ("BeastCave$Walls", "beast", "[I", true)
  | 3 => ("BeastCave$Walls", "pull", "[I", true)
  | 4 => ("BeastCave$Walls", "direct", "[I", true)
  | _ => ("BeastCave$Walls", "distance", "[I", true)
def tyX10 : Nat → FieldType := fun k => match k with
  | 0 => .int
  | 1 => .int
  | 2 => .array .int
  | 3 => .array .int
  | 4 => .array .int
  | _ => .array .int
abbrev wsX100 : List Cond := u_ws RX10 TX10 6
theorem nmX10 : ∀ a, a < 6 → ∀ b, b < 6 → a ≠ b → (TX10 a).2.1 ≠ (TX10 b).2.1 := by decide +kernel
theorem tyX10_ok : ∀ k, k < 6 → parseFieldDescriptor (TX10 k).2.2.1 = some (tyX10 k) := by decide +kernel
def RX11 : String := "BeastCave"
def TX11 : u_T := fun k => match k with
  | 0 => ("BeastCave", "state", "I", false)
  | 1 => ("BeastCave", "fractionTop", "J", false)
  | 2 => ("BeastCave", "fractionBottom", "J", false)
  | 3 => ("BeastCave", "hasLived", "Z", false)
  | 4 => ("BeastCave", "livedLast", "[I", true)
  | 5 => ("BeastCave", "trays", "LBeastCave$Trays;", true)
  | 6 => ("BeastCave", "text", "LBeastCave$Text;", true)
  | 7 => ("BeastCave", "reader", "LBeastCave$Reader;", true)
  | 8 => ("BeastCave", "life", "LBeastCave$Life;", true)
  | 9 => ("BeastCave", "ahead", "LBeastCave$Ahead;", true)
  | 10 => ("BeastCave", "search", "LBeastCave$Search;", true)
  | 11 => ("BeastCave", "table", "[I", true)
  | 12 => ("BeastCave", "now", "LBeastCave$Cave;", false)
  | 13 => ("BeastCave", "spare", "LBeastCave$Cave;", false)
  | 14 => ("BeastCave", "plan", "LBeastCave$Days;", false)
  | 15 => ("BeastCave", "sparePlan", "LBeastCave$Days;", false)
  | 16 => ("BeastCave", "marks", "I", false)
  | 17 => ("BeastCave", "markedCaves", "[LBeastCave$Cave;", true)
  | _ => ("BeastCave", "markedPlans", "[LBeastCave$Days;", true)
def tyX11 : Nat → FieldType := fun k => match k with
  | 0 => .int
  | 1 => .long
  | 2 => .long
  | 3 => .boolean
  | 4 => .array .int
  | 5 => .object "BeastCave$Trays"
  | 6 => .object "BeastCave$Text"
  | 7 => .object "BeastCave$Reader"
  | 8 => .object "BeastCave$Life"
  | 9 => .object "BeastCave$Ahead"
  | 10 => .object "BeastCave$Search"
  | 11 => .array .int
  | 12 => .object "BeastCave$Cave"
  | 13 => .object "BeastCave$Cave"
  | 14 => .object "BeastCave$Days"
  | 15 => .object "BeastCave$Days"
  | 16 => .int
  | 17 => .array (.object "BeastCave$Cave")
  | _ => .array (.object "BeastCave$Days")
abbrev wsX110 : List Cond := u_ws RX11 TX11 19
theorem nmX11 : ∀ a, a < 19 → ∀ b, b < 19 → a ≠ b → (TX11 a).2.1 ≠ (TX11 b).2.1 := by decide +kernel
theorem tyX11_ok : ∀ k, k < 19 → parseFieldDescriptor (TX11 k).2.2.1 = some (tyX11 k) := by decide +kernel
def RX12 : String := "BeastCaveModel"
def TX12 : u_T := fun k => match k with
  | 0 => ("BeastCaveModel", "at", "[I", true)
  | 1 => ("BeastCaveModel", "names", "[J", true)
  | 2 => ("BeastCaveModel", "status", "I", false)
  | 3 => ("BeastCaveModel", "top", "J", false)
  | 4 => ("BeastCaveModel", "bottom", "J", false)
  | 5 => ("BeastCaveModel", "sort", "[I", true)
  | 6 => ("BeastCaveModel", "trayMany", "[I", true)
  | 7 => ("BeastCaveModel", "trays", "[J", true)
  | 8 => ("BeastCaveModel", "tape", "[B", true)
  | 9 => ("BeastCaveModel", "text", "[B", true)
  | 10 => ("BeastCaveModel", "taped", "I", false)
  | 11 => ("BeastCaveModel", "size", "I", false)
  | 12 => ("BeastCaveModel", "token", "I", false)
  | 13 => ("BeastCaveModel", "from", "I", false)
  | 14 => ("BeastCaveModel", "end", "I", false)
  | 15 => ("BeastCaveModel", "value", "I", false)
  | 16 => ("BeastCaveModel", "faultKind", "I", false)
  | 17 => ("BeastCaveModel", "faultPlace", "I", false)
  | 18 => ("BeastCaveModel", "faults", "I", false)
  | 19 => ("BeastCaveModel", "seen", "I", false)
  | 20 => ("BeastCaveModel", "toldParts", "I", false)
  | 21 => ("BeastCaveModel", "opened", "[I", true)
  | 22 => ("BeastCaveModel", "depth", "I", false)
  | 23 => ("BeastCaveModel", "counted", "I", false)
  | 24 => ("BeastCaveModel", "farBy", "[I", true)
  | 25 => ("BeastCaveModel", "triedAt", "[I", true)
  | 26 => ("BeastCaveModel", "cameBy", "[I", true)
  | 27 => ("BeastCaveModel", "tourBy", "[I", true)
  | 28 => ("BeastCaveModel", "tourMinutes", "I", false)
  | 29 => ("BeastCaveModel", "waysBy", "[I", true)
  | 30 => ("BeastCaveModel", "handsBy", "[I", true)
  | 31 => ("BeastCaveModel", "rowsBy", "[J", true)
  | 32 => ("BeastCaveModel", "moreBy", "[J", true)
  | 33 => ("BeastCaveModel", "greatBy", "[I", true)
  | 34 => ("BeastCaveModel", "mostBy", "[I", true)
  | 35 => ("BeastCaveModel", "beastBy", "[I", true)
  | 36 => ("BeastCaveModel", "fitsBy", "[Z", true)
  | 37 => ("BeastCaveModel", "fitMany", "I", false)
  | 38 => ("BeastCaveModel", "seenBy", "[I", true)
  | 39 => ("BeastCaveModel", "doneAt", "[I", true)
  | 40 => ("BeastCaveModel", "gotAt", "[I", true)
  | 41 => ("BeastCaveModel", "bestDeed", "[I", true)
  | 42 => ("BeastCaveModel", "litBy", "[J", true)
  | 43 => ("BeastCaveModel", "drawn", "I", false)
  | 44 => ("BeastCaveModel", "ranSteps", "I", false)
  | 45 => ("BeastCaveModel", "loops", "[I", true)
  | 46 => ("BeastCaveModel", "ran", "[I", true)
  | 47 => ("BeastCaveModel", "told1", "[I", true)
  | 48 => ("BeastCaveModel", "isTold", "Z", false)
  | _ => ("BeastCaveModel", "marks", "I", false)
def tyX12 : Nat → FieldType := fun k => match k with
  | 0 => .array .int
  | 1 => .array .long
  | 2 => .int
  | 3 => .long
  | 4 => .long
  | 5 => .array .int
  | 6 => .array .int
  | 7 => .array .long
  | 8 => .array .byte
  | 9 => .array .byte
  | 10 => .int
  | 11 => .int
  | 12 => .int
  | 13 => .int
  | 14 => .int
  | 15 => .int
  | 16 => .int
  | 17 => .int
  | 18 => .int
  | 19 => .int
  | 20 => .int
  | 21 => .array .int
  | 22 => .int
  | 23 => .int
  | 24 => .array .int
  | 25 => .array .int
  | 26 => .array .int
  | 27 => .array .int
  | 28 => .int
  | 29 => .array .int
  | 30 => .array .int
  | 31 => .array .long
  | 32 => .array .long
  | 33 => .array .int
  | 34 => .array .int
  | 35 => .array .int
  | 36 => .array .boolean
  | 37 => .int
  | 38 => .array .int
  | 39 => .array .int
  | 40 => .array .int
  | 41 => .array .int
  | 42 => .array .long
  | 43 => .int
  | 44 => .int
  | 45 => .array .int
  | 46 => .array .int
  | 47 => .array .int
  | 48 => .boolean
  | _ => .int
abbrev wsX120 : List Cond := u_ws RX12 TX12 50
theorem nmX12 : ∀ a, a < 50 → ∀ b, b < 50 → a ≠ b → (TX12 a).2.1 ≠ (TX12 b).2.1 := by decide +kernel
theorem tyX12_ok : ∀ k, k < 50 → parseFieldDescriptor (TX12 k).2.2.1 = some (tyX12 k) := by decide +kernel
abbrev vwCl : List vw_C := [(RX0, TX0, 3), (RX1, TX1, 2), (RX2, TX2, 15), (RX3, TX3, 8), (RX4, TX4, 5), (RX5, TX5, 10), (RX6, TX6, 9), (RX7, TX7, 11), (RX8, TX8, 15), (RX9, TX9, 3), (RX10, TX10, 6), (RX11, TX11, 19), (RX12, TX12, 50)]
end
section
/-! ===== a small machine of numbers: an int, a long, or a reference with the shape of what it names ===== -/
abbrev bc_V : Type := Int ⊕ (Int ⊕ ((Nat × Nat) × Int))
abbrev bc_L : Type := List (Option bc_V)
abbrev bc_St : Type := List bc_V
abbrev bc_H : Type := Int → Int → Int
abbrev bc_G : Type := Option (Σ' p : Prop, Decidable p)
abbrev bc_g (p : Prop) [d : Decidable p] : bc_G := some ⟨p, d⟩
def bc_upd (h : bc_H) (r j v : Int) : bc_H := fun a b => if a = r ∧ b = j then v else h a b
def bc_blk (h : bc_H) (r1 s1 r2 d2 n : Int) : bc_H := fun a b => if a = r2 ∧ d2 ≤ b ∧ b < d2 + n then h r1 (s1 + (b - d2)) else h a b
def bc_row (h : bc_H) (r : Int) (f : Int → Int) : bc_H := fun a b => if a = r then f b else h a b
def bc_w32 (x : Int) : Int := (x + 2147483648) % 4294967296 - 2147483648
def bc_w64 (x : Int) : Int := (x + 9223372036854775808) % 18446744073709551616 - 9223372036854775808
def bc_w8 (x : Int) : Int := (x + 128) % 256 - 128
def bc_w16 (x : Int) : Int := (x + 32768) % 65536 - 32768
def bc_and (a b : Int) : Int := (Int32.ofInt a &&& Int32.ofInt b).toInt
def bc_or (a b : Int) : Int := (Int32.ofInt a ||| Int32.ofInt b).toInt
def bc_xor (a b : Int) : Int := (Int32.ofInt a ^^^ Int32.ofInt b).toInt
def bc_shl (a b : Int) : Int := (Int32.ofInt a <<< (Int32.ofInt b &&& 31)).toInt
def bc_shr (a b : Int) : Int := (Int32.ofInt a >>> (Int32.ofInt b &&& 31)).toInt
def bc_ushr (a b : Int) : Int := ((Int32.ofInt a).toUInt32 >>> ((Int32.ofInt b).toUInt32 &&& Int32.toUInt32 31)).toInt32.toInt
def bc_landL (a b : Int) : Int := (Int64.ofInt a &&& Int64.ofInt b).toInt
def bc_lorL (a b : Int) : Int := (Int64.ofInt a ||| Int64.ofInt b).toInt
def bc_lshl (a b : Int) : Int := (Int64.ofInt a <<< ((Int32.ofInt b).toInt64 &&& 63)).toInt
def bc_lshr (a b : Int) : Int := (Int64.ofInt a >>> ((Int32.ofInt b).toInt64 &&& 63)).toInt
def bc_lushr (a b : Int) : Int := ((Int64.ofInt a).toUInt64 >>> ((Int32.ofInt b).toInt64.toUInt64 &&& Int64.toUInt64 63)).toInt64.toInt
def bc_lcmp (a b : Int) : Int := if a < b then -1 else if a = b then 0 else 1
/-- locals by their places -/
def bc_lget : bc_L → Nat → Option bc_V
  | [], _ => none
  | a :: _, 0 => a
  | _ :: l, n + 1 => bc_lget l n
def bc_lset : bc_L → Nat → Option bc_V → bc_L
  | [], 0, v => [v]
  | [], n + 1, v => none :: bc_lset [] n v
  | _ :: l, 0, v => v :: l
  | a :: l, n + 1, v => a :: bc_lset l n v
def bc_cl (ls : bc_L) : Nat → bc_L
  | 0 => ls
  | n + 1 => match bc_lget ls n with
    | some (.inr (.inl _)) => bc_lset ls n none
    | _ => ls
def bc_sto (ls : bc_L) (n : Nat) (v : bc_V) : bc_L := bc_lset (bc_cl ls n) n (some v)
def bc_sto2 (ls : bc_L) (n : Nat) (v : bc_V) : bc_L := bc_lset (bc_lset (bc_cl ls n) n (some v)) (n + 1) none
def bc_ent : List bc_V → bc_L
  | [] => []
  | .inr (.inl x) :: l => some (.inr (.inl x)) :: none :: bc_ent l
  | v :: l => some v :: bc_ent l
def bc_pad : bc_L → Nat → bc_L
  | l, 0 => l
  | [], n + 1 => none :: bc_pad [] n
  | a :: l, n + 1 => a :: bc_pad l n
/-- how many words an operand takes -/
def bc_cat : bc_St → Nat
  | [] => 0
  | .inr (.inl _) :: l => 2 + bc_cat l
  | _ :: l => 1 + bc_cat l
def bc_take : Nat → bc_St → bc_St → Option (bc_St × bc_St)
  | 0, st, acc => some (acc, st)
  | n + 1, v :: st, acc => bc_take n st (v :: acc)
  | _ + 1, [], _ => none
def bc_two {α : Type} (l : List (List α)) (k : Nat) (d : α) : α := (l.getD (k / 16) []).getD (k % 16) d
/-- 'p' where the flag is down; nothing to show where it is up -/
def bc_ifn (ph : Bool) (p : Prop) [Decidable p] : bc_G := match ph with
  | true => none
  | false => bc_g p
/-- the conditions of a branch: taken, not taken -/
def bc_yes (c : ClassFile.Cond) (a b : Int) : Prop := match c with
  | .eq => a = b | .ne => a ≠ b | .lt => a < b | .ge => b ≤ a | .gt => b < a | .le => a ≤ b
def bc_not (c : ClassFile.Cond) (a b : Int) : Prop := match c with
  | .eq => a ≠ b | .ne => a = b | .lt => b ≤ a | .ge => a < b | .gt => a ≤ b | .le => b < a
end
section
/-- the fields' kinds: 10 int, 11 long, 12 boolean, else the shape of what is named (0: object of a class; 1 int, 2 byte, 3 long, 4 boolean, 5, 6 references: so many places) -/
def bc_FT : List (List (Nat × Nat)) := [[(1, 5), (1, 201), (1, 201)],
  [(10, 0), (1, 25)],
  [(10, 0), (10, 0), (10, 0), (10, 0), (0, 1), (0, 10), (0, 4), (1, 6), (1, 6), (1, 6), (1, 30), (10, 0), (3, 26), (1, 26), (1, 26)],
  [(12, 0), (10, 0), (10, 0), (1, 60), (1, 60), (1, 60), (1, 60), (1, 60)],
  [(10, 0), (1, 8), (1, 8), (1, 8), (1, 8)],
  [(10, 0), (10, 0), (10, 0), (10, 0), (10, 0), (10, 0), (0, 2), (0, 3), (10, 0), (1, 60)],
  [(0, 8), (0, 2), (0, 3), (12, 0), (12, 0), (1, 12), (10, 0), (1, 3), (10, 0)],
  [(10, 0), (1, 5), (10, 0), (1, 5), (1, 30), (1, 7), (0, 10), (10, 0), (10, 0), (10, 0), (10, 0)],
  [(10, 0), (10, 0), (10, 0), (10, 0), (10, 0), (11, 0), (10, 0), (2, 900), (3, 27), (10, 0), (10, 0), (10, 0), (10, 0), (10, 0), (10, 0)],
  [(1, 4), (1, 4), (3, 240)],
  [(10, 0), (10, 0), (1, 7), (1, 7), (1, 49), (1, 49)],
  [(10, 0), (11, 0), (11, 0), (12, 0), (1, 5), (0, 9), (0, 8), (0, 6), (0, 5), (0, 0), (0, 7), (1, 512), (0, 2), (0, 2), (0, 3), (0, 3), (10, 0), (5, 3), (6, 3)],
  [(1, 3968), (3, 156), (10, 0), (11, 0), (11, 0), (1, 4), (1, 4), (3, 240), (2, 900), (2, 900), (10, 0), (10, 0), (10, 0), (10, 0), (10, 0), (10, 0), (10, 0), (10, 0), (10, 0), (10, 0), (10, 0), (1, 3), (10, 0), (10, 0), (1, 49), (1, 6), (1, 6), (1, 5), (10, 0), (1, 256), (1, 256), (3, 5), (3, 5), (1, 45), (1, 201), (1, 201), (4, 61), (10, 0), (1, 6), (1, 5), (1, 5), (1, 5), (3, 13), (10, 0), (10, 0), (1, 80), (1, 5), (1, 5), (12, 0), (10, 0)]]
def bc_ft (c f : Nat) : Nat × Nat := (bc_FT.getD c []).getD f (99, 0)
/-- how far behind an object the cell lies that a final field names -/
def bc_FO : List (List (Option Int)) := [[some (1), some (2), some (3)],
  [none, some (1)],
  [none, none, none, none, some (1), some (3), some (8), some (13), some (14), some (15), some (16), none, some (17), some (18), some (19)],
  [none, none, none, some (1), some (2), some (3), some (4), some (5)],
  [none, some (1), some (2), some (3), some (4)],
  [none, none, none, none, none, none, none, none, none, some (1)],
  [some (-3), none, none, none, none, some (1), none, some (2), none],
  [none, some (1), none, some (2), some (3), some (4), none, none, none, none, none],
  [none, none, none, none, none, none, none, some (1), some (2), none, none, none, none, none, none],
  [some (1), some (2), some (3)],
  [none, none, some (1), some (2), some (3), some (4)],
  [none, none, none, none, some (1), some (2), some (6), some (9), some (12), some (14), some (18), some (23), none, none, none, none, none, some (76), some (77)],
  [some (1), some (2), none, none, none, some (3), some (4), some (5), some (6), some (7), none, none, none, none, none, none, none, none, none, none, none, some (8), none, none, some (9), some (10), some (11), some (12), none, some (13), some (14), some (15), some (16), some (17), some (18), some (19), some (20), none, some (21), some (22), some (23), some (24), some (25), none, none, some (26), some (27), some (28), none, none]]
def bc_fo (c f : Nat) : Option Int := (bc_FO.getD c []).getD f none
/-- the shapes of the cells, in the order in which they are made -/
def bc_SH : List (Nat × Nat) := [(0, 11), (1, 5), (0, 9), (1, 4), (1, 4), (3, 240), (0, 8), (2, 900), (3, 27), (0, 6), (1, 12), (1, 3), (0, 5), (1, 60), (0, 0), (1, 5), (1, 201), (1, 201), (0, 7), (1, 5), (1, 5), (1, 30), (1, 7), (1, 512), (0, 2), (0, 1), (1, 25), (0, 10), (1, 7), (1, 7), (1, 49), (1, 49), (0, 4), (1, 8), (1, 8), (1, 8), (1, 8), (1, 6), (1, 6), (1, 6), (1, 30), (3, 26), (1, 26), (1, 26), (0, 2), (0, 1), (1, 25), (0, 10), (1, 7), (1, 7), (1, 49), (1, 49), (0, 4), (1, 8), (1, 8), (1, 8), (1, 8), (1, 6), (1, 6), (1, 6), (1, 30), (3, 26), (1, 26), (1, 26), (0, 3), (1, 60), (1, 60), (1, 60), (1, 60), (1, 60), (0, 3), (1, 60), (1, 60), (1, 60), (1, 60), (1, 60), (5, 3), (6, 3), (0, 2), (0, 1), (1, 25), (0, 10), (1, 7), (1, 7), (1, 49), (1, 49), (0, 4), (1, 8), (1, 8), (1, 8), (1, 8), (1, 6), (1, 6), (1, 6), (1, 30), (3, 26), (1, 26), (1, 26), (0, 3), (1, 60), (1, 60), (1, 60), (1, 60), (1, 60), (0, 2), (0, 1), (1, 25), (0, 10), (1, 7), (1, 7), (1, 49), (1, 49), (0, 4), (1, 8), (1, 8), (1, 8), (1, 8), (1, 6), (1, 6), (1, 6), (1, 30), (3, 26), (1, 26), (1, 26), (0, 3), (1, 60), (1, 60), (1, 60), (1, 60), (1, 60), (0, 2), (0, 1), (1, 25), (0, 10), (1, 7), (1, 7), (1, 49), (1, 49), (0, 4), (1, 8), (1, 8), (1, 8), (1, 8), (1, 6), (1, 6), (1, 6), (1, 30), (3, 26), (1, 26), (1, 26), (0, 3), (1, 60), (1, 60), (1, 60), (1, 60), (1, 60), (0, 12), (1, 3968), (3, 156), (1, 4), (1, 4), (3, 240), (2, 900), (2, 900), (1, 3), (1, 49), (1, 6), (1, 6), (1, 5), (1, 256), (1, 256), (3, 5), (3, 5), (1, 45), (1, 201), (1, 201), (4, 61), (1, 6), (1, 5), (1, 5), (1, 5), (3, 13), (1, 80), (1, 5), (1, 5)]
def bc_st0 : List Int := [108, 97, 109, 112, 32, 111, 100, 100, 115, 32, 98, 101, 97, 115, 116, 32, 119, 97, 108, 108, 32, 111, 102, 32, 112, 117, 108, 108, 115, 32, 119, 97, 121, 32, 108, 111, 110, 103, 32, 118, 105, 115, 105, 116, 111, 114, 32, 115, 101, 108, 102, 32, 97, 116, 32, 102, 105, 103, 117, 114, 101, 32, 115, 116, 121, 108, 101, 32, 111, 118, 101, 114, 32, 102, 111, 108, 108, 111, 119, 115, 32, 119, 101, 105, 103, 104, 116, 32, 109, 105, 110, 117, 116, 101, 32, 108, 101, 97, 100, 32, 119, 97, 107, 101, 32, 102, 105, 108, 108, 32, 97, 110, 121, 32, 119, 104, 101, 110, 32, 116, 117, 114, 110, 101, 100, 32, 100, 97, 114, 107, 32, 108, 111, 111, 112, 32, 101, 110, 100, 32, 115, 116, 111, 112, 32]
def bc_st1 : List Int := [32, 108, 97, 109, 112, 32, 111, 100, 100, 115, 32, 98, 101, 97, 115, 116, 32, 119, 97, 108, 108, 32, 119, 97, 121, 32, 118, 105, 115, 105, 116, 111, 114, 32, 102, 105, 103, 117, 114, 101, 32, 111, 118, 101, 114, 32, 102, 111, 108, 108, 111, 119, 115, 32, 111, 102, 32, 112, 117, 108, 108, 115, 32, 108, 111, 110, 103, 32, 115, 101, 108, 102, 32, 97, 116, 32, 115, 116, 121, 108, 101, 32, 119, 101, 105, 103, 104, 116, 32, 109, 105, 110, 117, 116, 101, 32, 108, 101, 97, 100, 32, 119, 97, 107, 101, 32, 102, 105, 108, 108, 32, 97, 110, 121, 32, 119, 104, 101, 110, 32, 108, 111, 111, 112, 32, 101, 110, 100, 32, 115, 116, 111, 112, 32, 116, 117, 114, 110, 101, 100, 32, 100, 97, 114, 107, 32]
def bc_str : Nat → List Int
  | 0 => bc_st0
  | _ => bc_st1
/-- a method: operands, what it gives (0 nothing, 1 int, 2 long, 3 boolean), locals, parameters, its class -/
def bc_MT : List (List (Nat × Nat × Nat × Nat × Nat)) := [[(1, 3, 4, 1, 50), (1, 0, 1, 0, 0), (4, 0, 9, 3, 0), (4, 1, 5, 3, 0), (4, 1, 4, 3, 0), (6, 2, 12, 5, 0), (2, 1, 9, 1, 0), (1, 0, 1, 0, 1), (1, 0, 1, 0, 1), (2, 0, 2, 1, 1), (3, 0, 7, 2, 1), (3, 1, 8, 2, 1), (4, 1, 11, 3, 1), (1, 0, 1, 0, 2), (1, 0, 1, 0, 2), (2, 0, 2, 1, 2)],
  [(4, 0, 5, 3, 2), (2, 3, 4, 1, 2), (3, 1, 5, 2, 2), (4, 0, 5, 4, 2), (4, 0, 6, 4, 2), (2, 1, 4, 2, 2), (2, 1, 4, 2, 2), (3, 0, 4, 2, 2), (2, 1, 2, 1, 2), (2, 3, 2, 1, 2), (1, 1, 3, 0, 2), (1, 1, 3, 0, 2), (1, 1, 5, 0, 2), (3, 3, 4, 2, 2), (2, 3, 3, 1, 2), (2, 3, 2, 1, 2)],
  [(1, 0, 1, 0, 3), (1, 0, 1, 0, 3), (2, 0, 2, 1, 3), (5, 1, 5, 4, 3), (3, 0, 3, 2, 3), (1, 0, 1, 0, 4), (1, 0, 1, 0, 4), (2, 0, 2, 1, 4), (4, 0, 4, 3, 4), (2, 1, 7, 1, 4), (2, 1, 7, 1, 4), (2, 1, 5, 1, 4), (4, 3, 5, 3, 4), (3, 0, 5, 2, 4), (3, 1, 7, 2, 4), (3, 1, 5, 2, 4)],
  [(1, 0, 1, 0, 5), (4, 0, 6, 3, 5), (2, 1, 3, 1, 5), (2, 1, 4, 1, 5), (2, 3, 2, 1, 5), (2, 3, 3, 1, 5), (2, 3, 3, 1, 5), (2, 3, 4, 1, 5), (2, 1, 2, 1, 5), (2, 0, 2, 1, 6), (3, 3, 4, 2, 6), (1, 3, 1, 0, 6), (3, 3, 3, 2, 6), (3, 3, 4, 2, 6), (1, 3, 1, 0, 6), (1, 3, 1, 0, 6)],
  [(1, 3, 1, 0, 6), (1, 3, 1, 0, 6), (1, 3, 2, 0, 6), (1, 3, 2, 0, 6), (1, 3, 2, 0, 6), (1, 3, 2, 0, 6), (1, 3, 2, 0, 6), (4, 3, 6, 3, 6), (1, 3, 1, 0, 6), (1, 3, 5, 0, 6), (1, 3, 1, 1, 6), (2, 3, 2, 1, 6), (1, 3, 1, 0, 6), (1, 0, 1, 0, 7), (3, 0, 3, 2, 7), (5, 3, 5, 4, 7)],
  [(5, 0, 7, 4, 7), (4, 3, 6, 3, 7), (4, 1, 4, 3, 7), (4, 1, 4, 3, 7), (4, 1, 11, 3, 7), (4, 1, 6, 3, 7), (4, 1, 6, 3, 7), (1, 0, 6, 0, 8), (2, 0, 3, 1, 8), (2, 0, 2, 1, 8), (1, 3, 1, 0, 8), (1, 3, 1, 0, 8), (2, 3, 2, 1, 8), (2, 3, 2, 1, 8), (2, 3, 2, 1, 8), (3, 3, 3, 2, 8)],
  [(1, 0, 1, 0, 8), (1, 0, 2, 0, 8), (1, 0, 2, 0, 8), (1, 0, 3, 0, 8), (1, 0, 1, 0, 9), (1, 3, 1, 1, 9), (2, 3, 2, 1, 9), (2, 1, 2, 1, 9), (4, 3, 4, 3, 9), (4, 0, 5, 3, 9), (3, 2, 3, 2, 9), (4, 0, 5, 3, 9), (2, 2, 3, 2, 9), (6, 0, 6, 5, 9), (1, 0, 1, 0, 10), (1, 0, 1, 0, 10)],
  [(2, 0, 2, 1, 10), (3, 0, 3, 2, 10), (4, 0, 5, 3, 10), (1, 1, 3, 0, 10), (2, 1, 4, 1, 10), (1, 0, 4, 0, 10), (4, 0, 7, 3, 10), (1, 0, 2, 0, 11), (1, 1, 1, 0, 11), (1, 2, 1, 0, 11), (1, 2, 1, 0, 11), (4, 3, 4, 3, 11), (4, 3, 6, 3, 11), (3, 2, 4, 2, 11), (6, 3, 6, 5, 11), (6, 1, 6, 5, 11)],
  [(2, 1, 4, 1, 11), (2, 1, 4, 1, 11), (2, 1, 2, 1, 11), (2, 1, 2, 1, 11), (3, 1, 3, 2, 11), (3, 1, 3, 2, 11), (3, 1, 3, 2, 11), (2, 1, 2, 1, 11), (3, 1, 3, 2, 11), (3, 1, 3, 2, 11), (2, 1, 3, 1, 11), (3, 1, 3, 2, 11), (2, 1, 2, 1, 11), (2, 1, 2, 1, 11), (4, 3, 4, 3, 11), (2, 1, 3, 1, 11)],
  [(3, 1, 3, 2, 11), (4, 1, 4, 3, 11), (3, 3, 3, 2, 11), (2, 3, 2, 1, 11), (4, 1, 4, 3, 11), (3, 1, 3, 2, 11), (2, 1, 3, 1, 11), (1, 1, 2, 0, 11), (3, 1, 3, 2, 11), (3, 1, 4, 2, 11), (2, 1, 2, 1, 11), (4, 1, 5, 3, 11), (5, 1, 6, 4, 11), (1, 1, 1, 0, 11), (2, 1, 3, 1, 11), (2, 1, 2, 1, 11)],
  [(2, 1, 2, 1, 11), (2, 1, 2, 1, 11), (2, 2, 4, 1, 11), (3, 2, 3, 2, 11), (2, 1, 3, 1, 11), (3, 1, 3, 2, 11), (4, 1, 5, 3, 11), (5, 1, 10, 4, 11), (4, 1, 7, 3, 11), (3, 1, 3, 2, 11), (3, 1, 3, 2, 11), (3, 3, 6, 2, 11), (2, 1, 3, 1, 11), (2, 1, 2, 1, 11), (2, 1, 2, 1, 11), (3, 3, 5, 2, 11)],
  [(1, 1, 1, 0, 11), (1, 1, 1, 0, 11), (2, 1, 2, 1, 11), (2, 1, 2, 1, 11), (1, 3, 1, 0, 11), (2, 3, 2, 1, 11), (3, 3, 3, 3, 11), (2, 3, 2, 2, 11), (2, 3, 2, 1, 11), (2, 3, 2, 1, 11), (2, 3, 2, 1, 11), (2, 3, 2, 1, 11), (3, 1, 3, 2, 11), (4, 1, 4, 3, 11), (4, 1, 9, 3, 11), (3, 0, 12, 2, 11)],
  [(2, 2, 5, 2, 11), (2, 2, 5, 2, 11), (1, 0, 1, 0, 12), (2, 0, 3, 1, 12), (1, 1, 1, 0, 12), (1, 2, 1, 0, 12), (1, 2, 1, 0, 12), (2, 3, 2, 1, 12), (2, 1, 2, 1, 12), (2, 1, 2, 1, 12), (2, 1, 2, 1, 12), (3, 3, 11, 2, 12), (1, 3, 1, 1, 12), (2, 2, 3, 2, 12), (4, 3, 5, 3, 12), (3, 1, 3, 2, 12)],
  [(4, 3, 6, 3, 12), (3, 2, 3, 2, 12), (6, 3, 8, 5, 12), (3, 3, 6, 3, 12), (6, 1, 6, 5, 12), (2, 0, 3, 1, 12), (2, 1, 2, 1, 12), (1, 3, 1, 1, 12), (1, 3, 1, 1, 12), (1, 0, 2, 0, 12), (2, 3, 2, 1, 12), (2, 1, 7, 1, 12), (2, 3, 2, 1, 12), (3, 3, 4, 2, 12), (2, 3, 2, 1, 12), (3, 3, 3, 2, 12)],
  [(4, 3, 4, 3, 12), (2, 3, 2, 1, 12), (1, 2, 4, 0, 12), (3, 1, 4, 2, 12), (2, 1, 2, 1, 12), (2, 1, 2, 1, 12), (1, 1, 1, 1, 12), (1, 1, 1, 1, 12), (1, 1, 1, 1, 12), (2, 3, 2, 1, 12), (1, 3, 1, 0, 12), (4, 3, 4, 3, 12), (4, 3, 4, 3, 12), (4, 3, 4, 3, 12), (2, 3, 2, 1, 12), (1, 3, 1, 0, 12)],
  [(1, 3, 2, 0, 12), (1, 3, 2, 0, 12), (1, 3, 2, 0, 12), (1, 3, 2, 0, 12), (1, 3, 2, 0, 12), (1, 3, 2, 0, 12), (1, 3, 3, 0, 12), (2, 1, 4, 1, 12), (2, 3, 2, 1, 12), (2, 3, 2, 1, 12), (2, 3, 3, 1, 12), (3, 3, 3, 2, 12), (1, 3, 6, 0, 12), (2, 1, 4, 1, 12), (2, 3, 2, 1, 12), (2, 3, 2, 1, 12)],
  [(2, 3, 2, 1, 12), (2, 3, 2, 1, 12), (3, 3, 3, 2, 12), (1, 1, 3, 1, 12), (3, 1, 3, 2, 12), (3, 1, 3, 2, 12), (3, 1, 3, 2, 12), (3, 1, 3, 2, 12), (2, 1, 4, 1, 12), (2, 1, 3, 1, 12), (2, 3, 2, 1, 12), (2, 1, 2, 1, 12), (1, 1, 3, 0, 12), (2, 1, 5, 1, 12), (2, 1, 2, 1, 12), (3, 1, 3, 2, 12)],
  [(3, 1, 3, 2, 12), (3, 1, 3, 2, 12), (2, 1, 2, 1, 12), (3, 1, 3, 2, 12), (3, 1, 3, 2, 12), (3, 0, 6, 2, 12), (1, 1, 4, 0, 12), (2, 1, 4, 1, 12), (2, 1, 2, 1, 12), (3, 1, 7, 2, 12), (3, 3, 5, 2, 12), (3, 1, 3, 2, 12), (2, 3, 3, 1, 12), (2, 1, 2, 1, 12), (2, 3, 2, 1, 12), (2, 1, 2, 1, 12)],
  [(4, 3, 4, 3, 12), (2, 1, 3, 1, 12), (3, 1, 5, 2, 12), (4, 1, 5, 3, 12), (3, 3, 3, 2, 12), (2, 3, 2, 1, 12), (1, 1, 1, 1, 12), (2, 0, 3, 1, 12), (2, 0, 3, 1, 12), (1, 3, 1, 1, 12), (4, 1, 5, 3, 12), (3, 1, 4, 2, 12), (2, 1, 4, 1, 12), (1, 1, 3, 0, 12), (3, 1, 3, 2, 12), (1, 0, 5, 0, 12)],
  [(3, 1, 4, 2, 12), (2, 1, 4, 1, 12), (4, 3, 6, 3, 12), (2, 3, 3, 1, 12), (4, 0, 9, 3, 12), (4, 1, 4, 3, 12), (4, 1, 5, 3, 12), (5, 1, 6, 4, 12), (3, 3, 3, 2, 12), (1, 1, 4, 0, 12), (1, 1, 1, 0, 12), (2, 1, 5, 1, 12), (2, 1, 5, 1, 12), (3, 1, 5, 2, 12), (3, 3, 5, 2, 12), (2, 1, 5, 1, 12)],
  [(2, 1, 4, 1, 12), (2, 0, 5, 1, 12), (2, 2, 5, 1, 12), (3, 2, 3, 2, 12), (2, 1, 5, 1, 12), (2, 1, 3, 1, 12), (3, 1, 6, 2, 12), (4, 1, 6, 3, 12), (3, 1, 3, 2, 12), (4, 0, 7, 3, 12), (4, 1, 5, 3, 12), (5, 1, 7, 4, 12), (2, 1, 5, 1, 12), (4, 1, 7, 3, 12), (3, 0, 4, 2, 12), (4, 3, 4, 3, 12)],
  [(2, 1, 2, 1, 12), (3, 1, 4, 2, 12), (3, 1, 3, 2, 12), (3, 1, 3, 2, 12), (3, 3, 8, 2, 12), (2, 1, 3, 1, 12), (2, 1, 2, 1, 12), (2, 3, 2, 1, 12), (3, 3, 3, 2, 12), (1, 3, 2, 0, 12), (2, 3, 3, 1, 12), (2, 3, 5, 1, 12), (2, 1, 5, 1, 12), (2, 0, 4, 1, 12), (2, 1, 3, 1, 12), (2, 1, 2, 1, 12)],
  [(3, 3, 6, 2, 12), (3, 0, 4, 2, 12), (1, 1, 1, 0, 12), (1, 1, 1, 0, 12), (1, 1, 1, 1, 50), (1, 1, 2, 1, 50), (1, 1, 1, 1, 50), (2, 1, 2, 2, 50), (2, 1, 2, 2, 50), (2, 0, 4, 2, 50)]]
def bc_mt (k : Nat) : Nat × Nat × Nat × Nat × Nat := bc_two bc_MT k (0, 0, 0, 0, 0)
end
section
def bc_lim : Nat → Nat
  | 1 => 13
  | 4 => 10
  | 5 => 10
  | 6 => 10
  | _ => 8
/-- what is built in: Object's constructor, arraycopy, length and charAt of a String constant -/
def bc_b0 (ls : bc_L) (st : bc_St) (h : bc_H) : Option (bc_G × bc_L × bc_St × bc_H) := match st with
  | .inr (.inr ((0, _), _)) :: st => some (none, ls, st, h)
  | _ => none
def bc_b1 (ls : bc_L) (st : bc_St) (h : bc_H) : Option (bc_G × bc_L × bc_St × bc_H) := match st with
  | .inl n :: .inl d :: .inr (.inr ((1, n2), r2)) :: .inl s :: .inr (.inr ((1, n1), r1)) :: st => some (bc_g ((0 ≤ s ∧ 0 ≤ d ∧ 0 ≤ n) ∧ s + n ≤ (n1 : Int) ∧ d + n ≤ (n2 : Int)), ls, st, bc_blk h r1 s r2 d n)
  | .inl n :: .inl d :: .inr (.inr ((3, n2), r2)) :: .inl s :: .inr (.inr ((3, n1), r1)) :: st => some (bc_g ((0 ≤ s ∧ 0 ≤ d ∧ 0 ≤ n) ∧ s + n ≤ (n1 : Int) ∧ d + n ≤ (n2 : Int)), ls, st, bc_blk h r1 s r2 d n)
  | _ => none
def bc_b2 (ls : bc_L) (st : bc_St) (h : bc_H) : Option (bc_G × bc_L × bc_St × bc_H) := match st with
  | .inr (.inr ((8, j), _)) :: st => some (none, ls, .inl ((bc_str j).length : Int) :: st, h)
  | _ => none
def bc_b3 (ls : bc_L) (st : bc_St) (h : bc_H) : Option (bc_G × bc_L × bc_St × bc_H) := match st with
  | .inl i :: .inr (.inr ((8, j), _)) :: st => some (bc_g (0 ≤ i ∧ i < ((bc_str j).length : Int)), ls, .inl ((bc_str j).getD i.toNat 0) :: st, h)
  | _ => none
def bc_b4 (ls : bc_L) (st : bc_St) (h : bc_H) : Option (bc_G × bc_L × bc_St × bc_H) := match st with
  | .inl a :: st => some (none, ls, .inl (if 0 ≤ a then a else bc_w32 (0 - a)) :: st, h)
  | _ => none
def bc_b5 (ls : bc_L) (st : bc_St) (h : bc_H) : Option (bc_G × bc_L × bc_St × bc_H) := match st with
  | .inl b :: .inl a :: st => some (none, ls, .inl (if a < b then b else a) :: st, h)
  | _ => none
def bc_b6 (ls : bc_L) (st : bc_St) (h : bc_H) : Option (bc_G × bc_L × bc_St × bc_H) := match st with
  | .inl b :: .inl a :: st => some (none, ls, .inl (if b < a then b else a) :: st, h)
  | _ => none
def bc_bt (b : Nat) (ls : bc_L) (st : bc_St) (h : bc_H) : Option (bc_G × bc_L × bc_St × bc_H) := match b with
  | 0 => bc_b0 ls st h
  | 1 => bc_b1 ls st h
  | 2 => bc_b2 ls st h
  | 3 => bc_b3 ls st h
  | 4 => bc_b4 ls st h
  | 5 => bc_b5 ls st h
  | 6 => bc_b6 ls st h
  | _ => none
/-- one instruction that neither branches, calls, ends nor makes a cell: what must hold, and what is then -/
def bc_s1 (ph : Bool) (i : Instr) (ls : bc_L) (st : bc_St) (h : bc_H) : Option (bc_G × bc_L × bc_St × bc_H) :=
  match i with
  | .iconst n => some (none, ls, .inl n :: st, h)
  | .sipush n => some (none, ls, .inr (.inl n) :: st, h)
  | .ldc j => some (none, ls, .inr (.inr ((8, j), -10)) :: st, h)
  | .iload j => match bc_lget ls j with | some (.inl x) => some (none, ls, .inl x :: st, h) | _ => none
  | .lload j => match bc_lget ls j with | some (.inr (.inl x)) => some (none, ls, .inr (.inl x) :: st, h) | _ => none
  | .aload j => match bc_lget ls j with | some (.inr (.inr x)) => some (none, ls, .inr (.inr x) :: st, h) | _ => none
  | .istore j => match st with | .inl x :: st => some (none, bc_sto ls j (.inl x), st, h) | _ => none
  | .lstore j => match st with | .inr (.inl x) :: st => some (none, bc_sto2 ls j (.inr (.inl x)), st, h) | _ => none
  | .astore j => match st with | .inr (.inr x) :: st => some (none, bc_sto ls j (.inr (.inr x)), st, h) | _ => none
  | .iinc j n => match bc_lget ls j with | some (.inl x) => some (none, bc_sto ls j (.inl (bc_w32 (x + n))), st, h) | _ => none
  | .iadd => match st with | .inl b :: .inl a :: st => some (none, ls, .inl (bc_w32 (a + b)) :: st, h) | _ => none
  | .isub => match st with | .inl b :: .inl a :: st => some (none, ls, .inl (bc_w32 (a - b)) :: st, h) | _ => none
  | .imul => match st with | .inl b :: .inl a :: st => some (none, ls, .inl (bc_w32 (a * b)) :: st, h) | _ => none
  | .idiv => match st with | .inl b :: .inl a :: st => some (bc_g (b ≠ 0), ls, .inl (bc_w32 (a.tdiv b)) :: st, h) | _ => none
  | .irem => match st with | .inl b :: .inl a :: st => some (bc_g (b ≠ 0), ls, .inl (a.tmod b) :: st, h) | _ => none
  | .ineg => match st with | .inl a :: st => some (none, ls, .inl (bc_w32 (-a)) :: st, h) | _ => none
  | .iand => match st with | .inl b :: .inl a :: st => some (none, ls, .inl (bc_and a b) :: st, h) | _ => none
  | .ior => match st with | .inl b :: .inl a :: st => some (none, ls, .inl (bc_or a b) :: st, h) | _ => none
  | .ixor => match st with | .inl b :: .inl a :: st => some (none, ls, .inl (bc_xor a b) :: st, h) | _ => none
  | .ishl => match st with | .inl b :: .inl a :: st => some (none, ls, .inl (bc_shl a b) :: st, h) | _ => none
  | .ishr => match st with | .inl b :: .inl a :: st => some (none, ls, .inl (bc_shr a b) :: st, h) | _ => none
  | .iushr => match st with | .inl b :: .inl a :: st => some (none, ls, .inl (bc_ushr a b) :: st, h) | _ => none
  | .ladd => match st with | .inr (.inl b) :: .inr (.inl a) :: st => some (none, ls, .inr (.inl (bc_w64 (a + b))) :: st, h) | _ => none
  | .lsub => match st with | .inr (.inl b) :: .inr (.inl a) :: st => some (none, ls, .inr (.inl (bc_w64 (a - b))) :: st, h) | _ => none
  | .lmul => match st with | .inr (.inl b) :: .inr (.inl a) :: st => some (none, ls, .inr (.inl (bc_w64 (a * b))) :: st, h) | _ => none
  | .ldiv => match st with | .inr (.inl b) :: .inr (.inl a) :: st => some (bc_g (b ≠ 0), ls, .inr (.inl (bc_w64 (a.tdiv b))) :: st, h) | _ => none
  | .lrem => match st with | .inr (.inl b) :: .inr (.inl a) :: st => some (bc_g (b ≠ 0), ls, .inr (.inl (a.tmod b)) :: st, h) | _ => none
  | .land => match st with | .inr (.inl b) :: .inr (.inl a) :: st => some (none, ls, .inr (.inl (bc_landL a b)) :: st, h) | _ => none
  | .lor => match st with | .inr (.inl b) :: .inr (.inl a) :: st => some (none, ls, .inr (.inl (bc_lorL a b)) :: st, h) | _ => none
  | .lshl => match st with | .inl b :: .inr (.inl a) :: st => some (none, ls, .inr (.inl (bc_lshl a b)) :: st, h) | _ => none
  | .lshr => match st with | .inl b :: .inr (.inl a) :: st => some (none, ls, .inr (.inl (bc_lshr a b)) :: st, h) | _ => none
  | .lushr => match st with | .inl b :: .inr (.inl a) :: st => some (none, ls, .inr (.inl (bc_lushr a b)) :: st, h) | _ => none
  | .lcmp => match st with | .inr (.inl b) :: .inr (.inl a) :: st => some (none, ls, .inl (bc_lcmp a b) :: st, h) | _ => none
  | .i2l => match st with | .inl a :: st => some (none, ls, .inr (.inl a) :: st, h) | _ => none
  | .l2i => match st with | .inr (.inl a) :: st => some (none, ls, .inl (bc_w32 a) :: st, h) | _ => none
  | .i2b => match st with | .inl a :: st => some (none, ls, .inl (bc_w8 a) :: st, h) | _ => none
  | .i2s => match st with | .inl a :: st => some (none, ls, .inl (bc_w16 a) :: st, h) | _ => none
  | .dup => match st with
    | .inl a :: st => some (none, ls, .inl a :: .inl a :: st, h)
    | .inr (.inr a) :: st => some (none, ls, .inr (.inr a) :: .inr (.inr a) :: st, h)
    | _ => none
  | .dup2 => match st with
    | .inl a :: .inr (.inr b) :: st => some (none, ls, .inl a :: .inr (.inr b) :: .inl a :: .inr (.inr b) :: st, h)
    | .inr (.inl a) :: st => some (none, ls, .inr (.inl a) :: .inr (.inl a) :: st, h)
    | _ => none
  | .pop => match st with
    | .inl _ :: st => some (none, ls, st, h)
    | .inr (.inr _) :: st => some (none, ls, st, h)
    | _ => none
  | .getfield n => match st with
    | .inr (.inr ((0, c), r)) :: st => match Nat.beq c (n / 64) with
      | true => match bc_ft (n / 64) (n % 64) with
        | (10, _) => some (none, ls, .inl (h r (n % 64 : Nat)) :: st, h)
        | (11, _) => some (none, ls, .inr (.inl (h r (n % 64 : Nat))) :: st, h)
        | (12, _) => some (none, ls, .inl (h r (n % 64 : Nat)) :: st, h)
        | sh => match ph, bc_fo (n / 64) (n % 64) with
          | true, some o => some (none, ls, .inr (.inr (sh, r + o)) :: st, h)
          | _, _ => some (bc_g (0 ≤ h r (n % 64 : Nat)), ls, .inr (.inr (sh, h r (n % 64 : Nat))) :: st, h)
      | false => none
    | _ => none
  | .putfield n => match st with
    | v :: .inr (.inr ((0, c), r)) :: st => match Nat.beq c (n / 64) with
      | true => match v, bc_ft (n / 64) (n % 64) with
        | .inl x, (10, _) => some (none, ls, st, bc_upd h r (n % 64 : Nat) x)
        | .inl x, (12, _) => some (bc_g (x = 0 ∨ x = 1), ls, st, bc_upd h r (n % 64 : Nat) x)
        | .inr (.inl x), (11, _) => some (none, ls, st, bc_upd h r (n % 64 : Nat) x)
        | .inr (.inr ((a, b), x)), (k, m) => match ph, bc_fo (n / 64) (n % 64) with
          | true, some _ => none
          | _, _ => match Nat.beq a k, Nat.beq b m with
            | true, true => some (none, ls, st, bc_upd h r (n % 64 : Nat) x)
            | _, _ => none
        | _, _ => none
      | false => none
    | _ => none
  | .arraylength => match st with
    | .inr (.inr ((7, _), _)) :: st => match ph with
      | true => some (none, ls, .inl (h (-3) 0) :: st, h)
      | false => none
    | .inr (.inr ((1, n), _)) :: st => some (none, ls, .inl (n : Int) :: st, h)
    | .inr (.inr ((3, n), _)) :: st => some (none, ls, .inl (n : Int) :: st, h)
    | _ => none
  | .iaload => match st with
    | .inl i :: .inr (.inr ((1, n), r)) :: st => some (bc_g (0 ≤ i ∧ i < (n : Int)), ls, .inl (h r i) :: st, h)
    | .inl i :: .inr (.inr ((7, _), _)) :: st => match ph with
      | true => some (bc_g (0 ≤ i ∧ i < h (-3) 0), ls, .inl (h (-2) i) :: st, h)
      | false => none
    | _ => none
  | .laload => match st with
    | .inl i :: .inr (.inr ((3, n), r)) :: st => some (bc_g (0 ≤ i ∧ i < (n : Int)), ls, .inr (.inl (h r i)) :: st, h)
    | _ => none
  | .baload => match st with
    | .inl i :: .inr (.inr ((2, n), r)) :: st => some (bc_g (0 ≤ i ∧ i < (n : Int)), ls, .inl (h r i) :: st, h)
    | .inl i :: .inr (.inr ((4, n), r)) :: st => some (bc_g (0 ≤ i ∧ i < (n : Int)), ls, .inl (h r i) :: st, h)
    | _ => none
  | .aaload => match st with
    | .inl i :: .inr (.inr ((5, n), r)) :: st => some (bc_g ((0 ≤ i ∧ i < (n : Int)) ∧ 0 ≤ h r i), ls, .inr (.inr ((0, 2), h r i)) :: st, h)
    | .inl i :: .inr (.inr ((6, n), r)) :: st => some (bc_g ((0 ≤ i ∧ i < (n : Int)) ∧ 0 ≤ h r i), ls, .inr (.inr ((0, 3), h r i)) :: st, h)
    | _ => none
  | .iastore => match st with
    | .inl x :: .inl i :: .inr (.inr ((1, n), r)) :: st => some (bc_g (0 ≤ i ∧ i < (n : Int)), ls, st, bc_upd h r i x)
    | _ => none
  | .lastore => match st with
    | .inr (.inl x) :: .inl i :: .inr (.inr ((3, n), r)) :: st => some (bc_g (0 ≤ i ∧ i < (n : Int)), ls, st, bc_upd h r i x)
    | _ => none
  | .bastore => match st with
    | .inl x :: .inl i :: .inr (.inr ((2, n), r)) :: st => some (bc_g (0 ≤ i ∧ i < (n : Int)), ls, st, bc_upd h r i (bc_w8 x))
    | .inl x :: .inl i :: .inr (.inr ((4, n), r)) :: st => some (bc_g ((0 ≤ i ∧ i < (n : Int)) ∧ (x = 0 ∨ x = 1)), ls, st, bc_upd h r i x)
    | _ => none
  | .aastore => match st with
    | .inr (.inr ((0, 2), x)) :: .inl i :: .inr (.inr ((5, n), r)) :: st => some (bc_g (0 ≤ i ∧ i < (n : Int)), ls, st, bc_upd h r i x)
    | .inr (.inr ((0, 3), x)) :: .inl i :: .inr (.inr ((6, n), r)) :: st => some (bc_g (0 ≤ i ∧ i < (n : Int)), ls, st, bc_upd h r i x)
    | _ => none
  | .ret b => match Nat.ble (bc_cat st) (bc_lim b) with
    | true => bc_bt b ls st h
    | false => none
  | _ => none
def bc_wp (x : Option (bc_G × bc_L × bc_St × bc_H)) (K : bc_L → bc_St → bc_H → Prop) : Prop :=
  match x with
  | some (none, ls, st, h) => K ls st h
  | some (some g, ls, st, h) => g.1 ∧ K ls st h
  | none => False
/-- what a new cell holds: 0; nothing, where something is named -/
def bc_new (h : bc_H) (np : Nat) (sh : Nat × Nat) : bc_H := match sh with
  | (0, c) => bc_row h np (fun j => match bc_ft c j.toNat with | (10, _) => 0 | (11, _) => 0 | (12, _) => 0 | _ => -1)
  | (5, _) => bc_row h np (fun _ => -1)
  | (6, _) => bc_row h np (fun _ => -1)
  | _ => bc_row h np (fun _ => 0)
abbrev bc_Q : Type := Option bc_V → bc_H → Prop
/-- a predicate of points: depth, method, place, cells made, locals, operands, memory, cells at the end, what is to hold then -/
abbrev bc_P : Type := Nat → Nat → Nat → Nat → bc_L → bc_St → bc_H → Nat → bc_Q → Prop
def bc_sw (J : Nat → Prop) (x : Int) (d : Nat) : List (Int × Int) → Prop
  | [] => J d
  | (v, t) :: l => (x = v → J t.toNat) ∧ (x ≠ v → bc_sw J x d l)
def bc_rt (k nq np : Nat) (Q : bc_Q) (v : Option bc_V) (h : bc_H) : Prop := match Nat.beq np nq, (bc_mt k).2.1, v with
  | true, 0, none => Q none h
  | true, 1, some (.inl x) => Q (some (.inl x)) h
  | true, 2, some (.inr (.inl x)) => Q (some (.inr (.inl x))) h
  | true, 3, some (.inl x) => (x = 0 ∨ x = 1) ∧ Q (some (.inl x)) h
  | _, _, _ => False
def bc_psh (r : Option bc_V) (st : bc_St) : bc_St := match r with
  | some v => v :: st
  | none => st
/-- the receiver is of the method's class -/
def bc_hd (k : Nat) (as : bc_St) : Bool := match as with
  | .inr (.inr ((0, c), _)) :: _ => Nat.beq c (bc_mt k).2.2.2.2
  | _ => false
def bc_cg (vt : Bool) (k : Nat) (as st : bc_St) : Bool := match Nat.ble (bc_cat st) 8, Nat.ble (bc_cat as) (bc_mt k).2.2.1, vt with
  | true, true, true => bc_hd k as
  | true, true, false => true
  | _, _, _ => false
/-- a call: the callee's end, and on -/
def bc_cal (P : bc_P) (vt : Bool) (d k nq : Nat) (np : Nat) (st : bc_St) (h : bc_H) (K : Nat → bc_St → bc_H → Prop) : Prop := match d, bc_take (bc_mt k).1 st [] with
  | d + 1, some (as, st) => match bc_cg vt k as st with
    | true => ∃ (nr : Nat) (M : bc_Q), (np ≤ nr ∧ nr ≤ nq) ∧ P d k 0 np (bc_pad (bc_ent as) (bc_mt k).2.2.1) [] h nr M ∧ ∀ r h', M r h' → K nr (bc_psh r st) h'
    | false => False
  | _, _ => False
def bc_ak : ArrayType → Nat
  | .int => 1 | .byte => 2 | .long => 3 | .boolean => 4 | _ => 9
/-- from here on, up to the next places that are come to by a jump -/
def bc_seg (ph : Bool) (P : bc_P) (d k nq : Nat) (Q : bc_Q) : List Instr → Nat → bc_L → bc_St → bc_H → Prop
  | [], _, _, _, _ => False
  | i :: is, np, ls, st, h => match i with
    | .goto t => P d k t.toNat np ls st h nq Q
    | .ifCond c t => match st with
      | .inl a :: st => (bc_yes c a 0 → P d k t.toNat np ls st h nq Q) ∧ (bc_not c a 0 → bc_seg ph P d k nq Q is np ls st h)
      | _ => False
    | .if_icmp c t => match st with
      | .inl b :: .inl a :: st => (bc_yes c a b → P d k t.toNat np ls st h nq Q) ∧ (bc_not c a b → bc_seg ph P d k nq Q is np ls st h)
      | _ => False
    | .lookupswitch t ps => match st with
      | .inl a :: st => bc_sw (fun t => P d k t np ls st h nq Q) a t.toNat ps.toList
      | _ => False
    | .ireturn => match st with
      | [.inl x] => bc_rt k nq np Q (some (.inl x)) h
      | _ => False
    | .lreturn => match st with
      | [.inr (.inl x)] => bc_rt k nq np Q (some (.inr (.inl x))) h
      | _ => False
    | .return_ => match st with
      | [] => bc_rt k nq np Q none h
      | _ => False
    | .invokestatic n => bc_cal P false d n nq np st h (fun nr st h => bc_seg ph P d k nq Q is nr ls st h)
    | .invokevirtual n => bc_cal P true d n nq np st h (fun nr st h => bc_seg ph P d k nq Q is nr ls st h)
    | .invokespecial n => bc_cal P true d n nq np st h (fun nr st h => bc_seg ph P d k nq Q is nr ls st h)
    | .new c => match ph, bc_SH[np]? with
      | false, some (0, c2) => (c = c2 ∧ np + 1 ≤ nq) ∧ bc_seg ph P d k nq Q is (np + 1) ls (.inr (.inr ((0, c), (np : Int))) :: st) (bc_new h np (0, c))
      | _, _ => False
    | .newarray a => match ph, st, bc_SH[np]? with
      | false, .inl n :: st, some (b, m) => ((b = bc_ak a ∧ n = (m : Int)) ∧ np + 1 ≤ nq) ∧ bc_seg ph P d k nq Q is (np + 1) ls (.inr (.inr ((b, m), (np : Int))) :: st) (bc_new h np (b, m))
      | _, _, _ => False
    | .anewarray c => match ph, st, bc_SH[np]? with
      | false, .inl n :: st, some (b, m) => ((b = c + 3 ∧ n = (m : Int)) ∧ np + 1 ≤ nq) ∧ bc_seg ph P d k nq Q is (np + 1) ls (.inr (.inr ((b, m), (np : Int))) :: st) (bc_new h np (b, m))
      | _, _, _ => False
    | i => bc_wp (bc_s1 ph i ls st h) (fun ls st h => bc_seg ph P d k nq Q is np ls st h)
end
section
/- BeastCaveLaw.law([I)Z -/
def bc_c0_0 : List Instr := [.new 11, .dup, .invokespecial 119, .astore 1, .new 12, .dup, .invokespecial 194, .astore 2, .iconst 0, .istore 3, .iload 3, .aload 0, .arraylength, .iconst 6, .isub, .if_icmp .gt 1449, .aload 0, .iload 3, .iaload, .iconst 63, .iand, .lookupswitch 1447 #[(0, 22), (1, 29), (2, 37), (3, 45), (4, 82), (5, 143), (6, 171), (7, 228), (8, 285), (9, 302), (10, 319), (11, 336), (12, 353), (13, 380), (14, 407), (15, 434), (16, 451), (17, 478), (18, 505), (19, 522), (20, 549), (21, 566), (22, 583), (23, 620), (24, 637), (25, 664), (26, 701), (27, 728), (28, 745), (29, 782), (30, 809), (31, 826), (32, 833), (33, 860), (34, 887), (35, 904), (36, 941), (37, 988), (38, 995), (39, 1012), (40, 1029), (41, 1046), (42, 1063), (43, 1081), (44, 1109), (45, 1126), (46, 1153), (47, 1190), (48, 1237), (49, 1274), (50, 1301), (51, 1328), (52, 1355), (53, 1372), (54, 1389), (55, 1406), (56, 1433), (57, 1440)], .aload 1, .invokevirtual 120, .aload 2, .invokevirtual 196, .if_icmp .eq 1447, .iconst 0, .ireturn, .aload 1, .invokevirtual 121, .aload 2, .invokevirtual 197, .lcmp, .ifCond .eq 1447, .iconst 0, .ireturn, .aload 1, .invokevirtual 122, .aload 2, .invokevirtual 198, .lcmp, .ifCond .eq 1447, .iconst 0, .ireturn, .aload 1, .aload 0, .iload 3, .iconst 1, .iadd, .iaload, .aload 0, .iload 3, .iconst 2, .iadd, .iaload, .aload 0, .iload 3, .iconst 3, .iadd, .iaload, .invokevirtual 123, .aload 2, .aload 0, .iload 3, .iconst 1, .iadd, .iaload, .aload 0, .iload 3, .iconst 2, .iadd, .iaload, .aload 0, .iload 3, .iconst 3, .iadd, .iaload, .invokevirtual 206, .if_icmp .eq 1447, .iconst 0, .ireturn, .aload 1, .aload 0, .iload 3, .iconst 1, .iadd, .iaload, .aload 0, .iload 3, .iconst 2, .iadd, .iaload, .aload 0, .iload 3, .iconst 3, .iadd, .iaload, .i2l, .iconst 32]
def bc_c0_1 : List Instr := [.lshl, .aload 0, .iload 3, .iconst 4, .iadd, .iaload, .i2l, .sipush 4294967295, .land, .lor, .invokevirtual 124, .aload 2, .aload 0, .iload 3, .iconst 1, .iadd, .iaload, .aload 0, .iload 3, .iconst 2, .iadd, .iaload, .aload 0, .iload 3, .iconst 3, .iadd, .iaload, .i2l, .iconst 32, .lshl, .aload 0, .iload 3, .iconst 4, .iadd, .iaload, .i2l, .sipush 4294967295, .land, .lor, .invokevirtual 208, .if_icmp .eq 1447, .iconst 0, .ireturn, .aload 1, .aload 0, .iload 3, .iconst 1, .iadd, .iaload, .aload 0, .iload 3, .iconst 2, .iadd, .iaload, .invokevirtual 125, .aload 2, .aload 0, .iload 3, .iconst 1, .iadd, .iaload, .aload 0, .iload 3, .iconst 2, .iadd, .iaload, .invokevirtual 209, .lcmp, .ifCond .eq 1447, .iconst 0, .ireturn, .aload 1, .aload 0, .iload 3, .iconst 1, .iadd, .iaload, .aload 0, .iload 3, .iconst 2, .iadd, .iaload, .aload 0, .iload 3, .iconst 3, .iadd, .iaload, .aload 0, .iload 3, .iconst 4, .iadd, .iaload, .aload 0, .iload 3, .iconst 5, .iadd, .iaload, .invokevirtual 126, .aload 2, .aload 0]
def bc_c0_2 : List Instr := [.iload 3, .iconst 1, .iadd, .iaload, .aload 0, .iload 3, .iconst 2, .iadd, .iaload, .aload 0, .iload 3, .iconst 3, .iadd, .iaload, .aload 0, .iload 3, .iconst 4, .iadd, .iaload, .aload 0, .iload 3, .iconst 5, .iadd, .iaload, .invokevirtual 210, .if_icmp .eq 1447, .iconst 0, .ireturn, .aload 1, .aload 0, .iload 3, .iconst 1, .iadd, .iaload, .aload 0, .iload 3, .iconst 2, .iadd, .iaload, .aload 0, .iload 3, .iconst 3, .iadd, .iaload, .aload 0, .iload 3, .iconst 4, .iadd, .iaload, .aload 0, .iload 3, .iconst 5, .iadd, .iaload, .invokevirtual 127, .aload 2, .aload 0, .iload 3, .iconst 1, .iadd, .iaload, .aload 0, .iload 3, .iconst 2, .iadd, .iaload, .aload 0, .iload 3, .iconst 3, .iadd, .iaload, .aload 0, .iload 3, .iconst 4, .iadd, .iaload, .aload 0, .iload 3, .iconst 5, .iadd, .iaload, .invokevirtual 212, .if_icmp .eq 1447, .iconst 0, .ireturn, .aload 1, .aload 0, .iload 3, .iconst 1, .iadd, .iaload, .invokevirtual 128, .aload 2, .aload 0, .iload 3, .iconst 1, .iadd, .iaload, .invokevirtual 247, .if_icmp .eq 1447]
def bc_c0_3 : List Instr := [.iconst 0, .ireturn, .aload 1, .aload 0, .iload 3, .iconst 1, .iadd, .iaload, .invokevirtual 129, .aload 2, .aload 0, .iload 3, .iconst 1, .iadd, .iaload, .invokevirtual 253, .if_icmp .eq 1447, .iconst 0, .ireturn, .aload 1, .aload 0, .iload 3, .iconst 1, .iadd, .iaload, .invokevirtual 130, .aload 2, .aload 0, .iload 3, .iconst 1, .iadd, .iaload, .invokevirtual 228, .if_icmp .eq 1447, .iconst 0, .ireturn, .aload 1, .aload 0, .iload 3, .iconst 1, .iadd, .iaload, .invokevirtual 131, .aload 2, .aload 0, .iload 3, .iconst 1, .iadd, .iaload, .invokevirtual 270, .if_icmp .eq 1447, .iconst 0, .ireturn, .aload 1, .aload 0, .iload 3, .iconst 1, .iadd, .iaload, .aload 0, .iload 3, .iconst 2, .iadd, .iaload, .invokevirtual 132, .aload 2, .aload 0, .iload 3, .iconst 1, .iadd, .iaload, .aload 0, .iload 3, .iconst 2, .iadd, .iaload, .invokevirtual 271, .if_icmp .eq 1447, .iconst 0, .ireturn, .aload 1, .aload 0, .iload 3, .iconst 1, .iadd, .iaload, .aload 0, .iload 3, .iconst 2, .iadd, .iaload, .invokevirtual 133, .aload 2, .aload 0, .iload 3, .iconst 1, .iadd, .iaload, .aload 0, .iload 3]
def bc_c0_4 : List Instr := [.iconst 2, .iadd, .iaload, .invokevirtual 272, .if_icmp .eq 1447, .iconst 0, .ireturn, .aload 1, .aload 0, .iload 3, .iconst 1, .iadd, .iaload, .aload 0, .iload 3, .iconst 2, .iadd, .iaload, .invokevirtual 134, .aload 2, .aload 0, .iload 3, .iconst 1, .iadd, .iaload, .aload 0, .iload 3, .iconst 2, .iadd, .iaload, .invokevirtual 273, .if_icmp .eq 1447, .iconst 0, .ireturn, .aload 1, .aload 0, .iload 3, .iconst 1, .iadd, .iaload, .invokevirtual 135, .aload 2, .aload 0, .iload 3, .iconst 1, .iadd, .iaload, .invokevirtual 274, .if_icmp .eq 1447, .iconst 0, .ireturn, .aload 1, .aload 0, .iload 3, .iconst 1, .iadd, .iaload, .aload 0, .iload 3, .iconst 2, .iadd, .iaload, .invokevirtual 136, .aload 2, .aload 0, .iload 3, .iconst 1, .iadd, .iaload, .aload 0, .iload 3, .iconst 2, .iadd, .iaload, .invokevirtual 275, .if_icmp .eq 1447, .iconst 0, .ireturn, .aload 1, .aload 0, .iload 3, .iconst 1, .iadd, .iaload, .aload 0, .iload 3, .iconst 2, .iadd, .iaload, .invokevirtual 137, .aload 2, .aload 0, .iload 3, .iconst 1, .iadd, .iaload, .aload 0, .iload 3, .iconst 2, .iadd]
def bc_c0_5 : List Instr := [.iaload, .invokevirtual 276, .if_icmp .eq 1447, .iconst 0, .ireturn, .aload 1, .aload 0, .iload 3, .iconst 1, .iadd, .iaload, .invokevirtual 138, .aload 2, .aload 0, .iload 3, .iconst 1, .iadd, .iaload, .invokevirtual 280, .if_icmp .eq 1447, .iconst 0, .ireturn, .aload 1, .aload 0, .iload 3, .iconst 1, .iadd, .iaload, .aload 0, .iload 3, .iconst 2, .iadd, .iaload, .invokevirtual 139, .aload 2, .aload 0, .iload 3, .iconst 1, .iadd, .iaload, .aload 0, .iload 3, .iconst 2, .iadd, .iaload, .invokevirtual 283, .if_icmp .eq 1447, .iconst 0, .ireturn, .aload 1, .aload 0, .iload 3, .iconst 1, .iadd, .iaload, .invokevirtual 140, .aload 2, .aload 0, .iload 3, .iconst 1, .iadd, .iaload, .invokevirtual 285, .if_icmp .eq 1447, .iconst 0, .ireturn, .aload 1, .aload 0, .iload 3, .iconst 1, .iadd, .iaload, .invokevirtual 141, .aload 2, .aload 0, .iload 3, .iconst 1, .iadd, .iaload, .invokevirtual 287, .if_icmp .eq 1447, .iconst 0, .ireturn, .aload 1, .aload 0, .iload 3, .iconst 1, .iadd, .iaload, .aload 0, .iload 3, .iconst 2, .iadd, .iaload, .aload 0, .iload 3, .iconst 3, .iadd, .iaload, .invokevirtual 142]
def bc_c0_6 : List Instr := [.aload 2, .aload 0, .iload 3, .iconst 1, .iadd, .iaload, .aload 0, .iload 3, .iconst 2, .iadd, .iaload, .aload 0, .iload 3, .iconst 3, .iadd, .iaload, .invokevirtual 288, .if_icmp .eq 1447, .iconst 0, .ireturn, .aload 1, .aload 0, .iload 3, .iconst 1, .iadd, .iaload, .invokevirtual 143, .aload 2, .aload 0, .iload 3, .iconst 1, .iadd, .iaload, .invokevirtual 289, .if_icmp .eq 1447, .iconst 0, .ireturn, .aload 1, .aload 0, .iload 3, .iconst 1, .iadd, .iaload, .aload 0, .iload 3, .iconst 2, .iadd, .iaload, .invokevirtual 144, .aload 2, .aload 0, .iload 3, .iconst 1, .iadd, .iaload, .aload 0, .iload 3, .iconst 2, .iadd, .iaload, .invokevirtual 290, .if_icmp .eq 1447, .iconst 0, .ireturn, .aload 1, .aload 0, .iload 3, .iconst 1, .iadd, .iaload, .aload 0, .iload 3, .iconst 2, .iadd, .iaload, .aload 0, .iload 3, .iconst 3, .iadd, .iaload, .invokevirtual 145, .aload 2, .aload 0, .iload 3, .iconst 1, .iadd, .iaload, .aload 0, .iload 3, .iconst 2, .iadd, .iaload, .aload 0, .iload 3, .iconst 3, .iadd, .iaload, .invokevirtual 291, .if_icmp .eq 1447, .iconst 0]
def bc_c0_7 : List Instr := [.ireturn, .aload 1, .aload 0, .iload 3, .iconst 1, .iadd, .iaload, .aload 0, .iload 3, .iconst 2, .iadd, .iaload, .invokevirtual 146, .aload 2, .aload 0, .iload 3, .iconst 1, .iadd, .iaload, .aload 0, .iload 3, .iconst 2, .iadd, .iaload, .invokevirtual 292, .if_icmp .eq 1447, .iconst 0, .ireturn, .aload 1, .aload 0, .iload 3, .iconst 1, .iadd, .iaload, .invokevirtual 147, .aload 2, .aload 0, .iload 3, .iconst 1, .iadd, .iaload, .invokevirtual 293, .if_icmp .eq 1447, .iconst 0, .ireturn, .aload 1, .aload 0, .iload 3, .iconst 1, .iadd, .iaload, .aload 0, .iload 3, .iconst 2, .iadd, .iaload, .aload 0, .iload 3, .iconst 3, .iadd, .iaload, .invokevirtual 148, .aload 2, .aload 0, .iload 3, .iconst 1, .iadd, .iaload, .aload 0, .iload 3, .iconst 2, .iadd, .iaload, .aload 0, .iload 3, .iconst 3, .iadd, .iaload, .invokevirtual 298, .if_icmp .eq 1447, .iconst 0, .ireturn, .aload 1, .aload 0, .iload 3, .iconst 1, .iadd, .iaload, .aload 0, .iload 3, .iconst 2, .iadd, .iaload, .invokevirtual 149, .aload 2, .aload 0, .iload 3, .iconst 1, .iadd, .iaload]
def bc_c0_8 : List Instr := [.aload 0, .iload 3, .iconst 2, .iadd, .iaload, .invokevirtual 299, .if_icmp .eq 1447, .iconst 0, .ireturn, .aload 1, .aload 0, .iload 3, .iconst 1, .iadd, .iaload, .invokevirtual 150, .aload 2, .aload 0, .iload 3, .iconst 1, .iadd, .iaload, .invokevirtual 300, .if_icmp .eq 1447, .iconst 0, .ireturn, .aload 1, .invokevirtual 151, .aload 2, .invokevirtual 301, .if_icmp .eq 1447, .iconst 0, .ireturn, .aload 1, .aload 0, .iload 3, .iconst 1, .iadd, .iaload, .aload 0, .iload 3, .iconst 2, .iadd, .iaload, .invokevirtual 152, .aload 2, .aload 0, .iload 3, .iconst 1, .iadd, .iaload, .aload 0, .iload 3, .iconst 2, .iadd, .iaload, .invokevirtual 302, .if_icmp .eq 1447, .iconst 0, .ireturn, .aload 1, .aload 0, .iload 3, .iconst 1, .iadd, .iaload, .aload 0, .iload 3, .iconst 2, .iadd, .iaload, .invokevirtual 153, .aload 2, .aload 0, .iload 3, .iconst 1, .iadd, .iaload, .aload 0, .iload 3, .iconst 2, .iadd, .iaload, .invokevirtual 304, .if_icmp .eq 1447, .iconst 0, .ireturn, .aload 1, .aload 0, .iload 3, .iconst 1, .iadd, .iaload, .invokevirtual 154, .aload 2, .aload 0, .iload 3, .iconst 1, .iadd, .iaload]
def bc_c0_9 : List Instr := [.invokevirtual 305, .if_icmp .eq 1447, .iconst 0, .ireturn, .aload 1, .aload 0, .iload 3, .iconst 1, .iadd, .iaload, .aload 0, .iload 3, .iconst 2, .iadd, .iaload, .aload 0, .iload 3, .iconst 3, .iadd, .iaload, .invokevirtual 155, .aload 2, .aload 0, .iload 3, .iconst 1, .iadd, .iaload, .aload 0, .iload 3, .iconst 2, .iadd, .iaload, .aload 0, .iload 3, .iconst 3, .iadd, .iaload, .invokevirtual 310, .if_icmp .eq 1447, .iconst 0, .ireturn, .aload 1, .aload 0, .iload 3, .iconst 1, .iadd, .iaload, .aload 0, .iload 3, .iconst 2, .iadd, .iaload, .aload 0, .iload 3, .iconst 3, .iadd, .iaload, .aload 0, .iload 3, .iconst 4, .iadd, .iaload, .invokevirtual 156, .aload 2, .aload 0, .iload 3, .iconst 1, .iadd, .iaload, .aload 0, .iload 3, .iconst 2, .iadd, .iaload, .aload 0, .iload 3, .iconst 3, .iadd, .iaload, .aload 0, .iload 3, .iconst 4, .iadd, .iaload, .invokevirtual 311, .if_icmp .eq 1447, .iconst 0, .ireturn, .aload 1, .invokevirtual 157, .aload 2, .invokevirtual 314, .if_icmp .eq 1447, .iconst 0, .ireturn, .aload 1, .aload 0, .iload 3, .iconst 1, .iadd]
def bc_c0_10 : List Instr := [.iaload, .invokevirtual 158, .aload 2, .aload 0, .iload 3, .iconst 1, .iadd, .iaload, .invokevirtual 315, .if_icmp .eq 1447, .iconst 0, .ireturn, .aload 1, .aload 0, .iload 3, .iconst 1, .iadd, .iaload, .invokevirtual 159, .aload 2, .aload 0, .iload 3, .iconst 1, .iadd, .iaload, .invokevirtual 316, .if_icmp .eq 1447, .iconst 0, .ireturn, .aload 1, .aload 0, .iload 3, .iconst 1, .iadd, .iaload, .invokevirtual 160, .aload 2, .aload 0, .iload 3, .iconst 1, .iadd, .iaload, .invokevirtual 319, .if_icmp .eq 1447, .iconst 0, .ireturn, .aload 1, .aload 0, .iload 3, .iconst 1, .iadd, .iaload, .invokevirtual 161, .aload 2, .aload 0, .iload 3, .iconst 1, .iadd, .iaload, .invokevirtual 320, .if_icmp .eq 1447, .iconst 0, .ireturn, .aload 1, .aload 0, .iload 3, .iconst 1, .iadd, .iaload, .invokevirtual 162, .aload 2, .aload 0, .iload 3, .iconst 1, .iadd, .iaload, .invokevirtual 322, .lcmp, .ifCond .eq 1447, .iconst 0, .ireturn, .aload 1, .aload 0, .iload 3, .iconst 1, .iadd, .iaload, .aload 0, .iload 3, .iconst 2, .iadd, .iaload, .invokevirtual 163, .aload 2, .aload 0, .iload 3, .iconst 1, .iadd, .iaload, .aload 0]
def bc_c0_11 : List Instr := [.iload 3, .iconst 2, .iadd, .iaload, .invokevirtual 323, .lcmp, .ifCond .eq 1447, .iconst 0, .ireturn, .aload 1, .aload 0, .iload 3, .iconst 1, .iadd, .iaload, .invokevirtual 164, .aload 2, .aload 0, .iload 3, .iconst 1, .iadd, .iaload, .invokevirtual 325, .if_icmp .eq 1447, .iconst 0, .ireturn, .aload 1, .aload 0, .iload 3, .iconst 1, .iadd, .iaload, .aload 0, .iload 3, .iconst 2, .iadd, .iaload, .invokevirtual 165, .aload 2, .aload 0, .iload 3, .iconst 1, .iadd, .iaload, .aload 0, .iload 3, .iconst 2, .iadd, .iaload, .invokevirtual 326, .if_icmp .eq 1447, .iconst 0, .ireturn, .aload 1, .aload 0, .iload 3, .iconst 1, .iadd, .iaload, .aload 0, .iload 3, .iconst 2, .iadd, .iaload, .aload 0, .iload 3, .iconst 3, .iadd, .iaload, .invokevirtual 166, .aload 2, .aload 0, .iload 3, .iconst 1, .iadd, .iaload, .aload 0, .iload 3, .iconst 2, .iadd, .iaload, .aload 0, .iload 3, .iconst 3, .iadd, .iaload, .invokevirtual 330, .if_icmp .eq 1447, .iconst 0, .ireturn, .aload 1, .aload 0, .iload 3, .iconst 1, .iadd, .iaload, .aload 0, .iload 3, .iconst 2, .iadd]
def bc_c0_12 : List Instr := [.iaload, .aload 0, .iload 3, .iconst 3, .iadd, .iaload, .aload 0, .iload 3, .iconst 4, .iadd, .iaload, .invokevirtual 167, .aload 2, .aload 0, .iload 3, .iconst 1, .iadd, .iaload, .aload 0, .iload 3, .iconst 2, .iadd, .iaload, .aload 0, .iload 3, .iconst 3, .iadd, .iaload, .aload 0, .iload 3, .iconst 4, .iadd, .iaload, .invokevirtual 331, .if_icmp .eq 1447, .iconst 0, .ireturn, .aload 1, .aload 0, .iload 3, .iconst 1, .iadd, .iaload, .aload 0, .iload 3, .iconst 2, .iadd, .iaload, .aload 0, .iload 3, .iconst 3, .iadd, .iaload, .invokevirtual 168, .aload 2, .aload 0, .iload 3, .iconst 1, .iadd, .iaload, .aload 0, .iload 3, .iconst 2, .iadd, .iaload, .aload 0, .iload 3, .iconst 3, .iadd, .iaload, .invokevirtual 333, .if_icmp .eq 1447, .iconst 0, .ireturn, .aload 1, .aload 0, .iload 3, .iconst 1, .iadd, .iaload, .aload 0, .iload 3, .iconst 2, .iadd, .iaload, .invokevirtual 169, .aload 2, .aload 0, .iload 3, .iconst 1, .iadd, .iaload, .aload 0, .iload 3, .iconst 2, .iadd, .iaload, .invokevirtual 338, .if_icmp .eq 1447, .iconst 0]
def bc_c0_13 : List Instr := [.ireturn, .aload 1, .aload 0, .iload 3, .iconst 1, .iadd, .iaload, .aload 0, .iload 3, .iconst 2, .iadd, .iaload, .invokevirtual 170, .aload 2, .aload 0, .iload 3, .iconst 1, .iadd, .iaload, .aload 0, .iload 3, .iconst 2, .iadd, .iaload, .invokevirtual 339, .if_icmp .eq 1447, .iconst 0, .ireturn, .aload 1, .aload 0, .iload 3, .iconst 1, .iadd, .iaload, .aload 0, .iload 3, .iconst 2, .iadd, .iaload, .invokevirtual 171, .aload 2, .aload 0, .iload 3, .iconst 1, .iadd, .iaload, .aload 0, .iload 3, .iconst 2, .iadd, .iaload, .invokevirtual 340, .if_icmp .eq 1447, .iconst 0, .ireturn, .aload 1, .aload 0, .iload 3, .iconst 1, .iadd, .iaload, .invokevirtual 172, .aload 2, .aload 0, .iload 3, .iconst 1, .iadd, .iaload, .invokevirtual 341, .if_icmp .eq 1447, .iconst 0, .ireturn, .aload 1, .aload 0, .iload 3, .iconst 1, .iadd, .iaload, .invokevirtual 173, .aload 2, .aload 0, .iload 3, .iconst 1, .iadd, .iaload, .invokevirtual 350, .if_icmp .eq 1447, .iconst 0, .ireturn, .aload 1, .aload 0, .iload 3, .iconst 1, .iadd, .iaload, .invokevirtual 174, .aload 2, .aload 0, .iload 3, .iconst 1]
def bc_c0_14 : List Instr := [.iadd, .iaload, .invokevirtual 351, .if_icmp .eq 1447, .iconst 0, .ireturn, .aload 1, .aload 0, .iload 3, .iconst 1, .iadd, .iaload, .aload 0, .iload 3, .iconst 2, .iadd, .iaload, .invokevirtual 175, .aload 2, .aload 0, .iload 3, .iconst 1, .iadd, .iaload, .aload 0, .iload 3, .iconst 2, .iadd, .iaload, .invokevirtual 352, .if_icmp .eq 1447, .iconst 0, .ireturn, .aload 1, .invokevirtual 176, .aload 2, .invokevirtual 354, .if_icmp .eq 1447, .iconst 0, .ireturn, .aload 1, .invokevirtual 177, .aload 2, .invokevirtual 355, .if_icmp .eq 1447, .iconst 0, .ireturn, .iinc 3 (6), .goto 10, .iconst 1, .ireturn]
def bc_c0 : List Instr := bc_c0_0 ++ (bc_c0_1 ++ (bc_c0_2 ++ (bc_c0_3 ++ (bc_c0_4 ++ (bc_c0_5 ++ (bc_c0_6 ++ (bc_c0_7 ++ (bc_c0_8 ++ (bc_c0_9 ++ (bc_c0_10 ++ (bc_c0_11 ++ (bc_c0_12 ++ (bc_c0_13 ++ (bc_c0_14))))))))))))))
/- BeastCave$Ahead.<init>()V -/
def bc_c1 : List Instr := [.aload 0, .ret 0, .aload 0, .iconst 5, .newarray .int, .putfield 0, .aload 0, .iconst 201, .newarray .int, .putfield 1, .aload 0, .iconst 201, .newarray .int, .putfield 2, .return_]
/- BeastCave$Ahead.watch(LBeastCave$Cave;II)V -/
def bc_c2 : List Instr := [.aload 1, .getfield 136, .iload 2, .iaload, .istore 4, .aload 1, .getfield 128, .istore 5, .aload 1, .getfield 137, .iload 2, .iaload, .istore 6, .aload 1, .getfield 138, .iload 2, .iconst 5, .imul, .aload 0, .getfield 0, .iconst 0, .invokestatic 19, .iconst 0, .istore 7, .iload 7, .iload 3, .if_icmp .gt 78, .iload 7, .iconst 200, .if_icmp .gt 78, .iload 7, .ifCond .le 60, .iload 6, .iload 7, .if_icmp .ge 40, .iload 5, .iload 7, .if_icmp .lt 40, .iconst 1, .goto 41, .iconst 0, .istore 8, .aload 0, .getfield 0, .iconst 0, .iload 8, .ifCond .eq 53, .aload 1, .getfield 133, .getfield 642, .iload 4, .iaload, .goto 54, .iconst (-1), .aload 1, .getfield 133, .getfield 643, .iload 4, .iaload, .invokestatic 20, .aload 0, .getfield 1, .iload 7, .aload 0, .getfield 0, .iconst 0, .invokestatic 21, .iastore, .aload 0, .getfield 2, .iload 7, .aload 0, .getfield 0, .iconst 0, .invokestatic 22, .iastore, .iinc 7 (1), .goto 24, .return_]
/- BeastCave$Ahead.longestLook(LBeastCave$Cave;II)I -/
def bc_c3 : List Instr := [.aload 1, .iload 2, .invokevirtual 25, .ifCond .eq 6, .iconst 0, .ireturn, .aload 1, .getfield 138, .iload 2, .iconst 5, .imul, .aload 0, .getfield 0, .iconst 0, .invokestatic 19, .iconst 0, .istore 4, .iload 4, .iconst 99, .if_icmp .gt 47, .aload 0, .getfield 0, .iconst 0, .aload 1, .getfield 133, .getfield 642, .iload 3, .iaload, .aload 1, .getfield 133, .getfield 643, .iload 3, .iaload, .invokestatic 20, .aload 0, .getfield 0, .iconst 0, .invokestatic 21, .aload 1, .getfield 135, .iload 2, .iaload, .if_icmp .le 45, .iload 4, .ireturn, .iinc 4 (1), .goto 17, .iconst 99, .ireturn]
/- BeastCave$Ahead.whoWithSelf(LBeastCave$Cave;II)I -/
def bc_c4 : List Instr := [.aload 0, .getfield 1, .iload 3, .iaload, .iload 2, .if_icmp .le 11, .aload 0, .getfield 2, .iload 3, .iaload, .goto 14, .aload 1, .getfield 132, .getfield 64, .ireturn]
/- BeastCave$Ahead.fittingSelves(LBeastCave$Cave;ILBeastCave$Trays;II)J -/
def bc_c5 : List Instr := [.aload 0, .aload 1, .iload 2, .iconst 200, .invokevirtual 2, .sipush 0, .lstore 6, .iconst 1, .istore 8, .iload 8, .iconst 60, .if_icmp .gt 68, .iconst 1, .istore 9, .iconst 0, .istore 10, .iload 10, .iload 5, .if_icmp .ge 56, .iload 9, .ifCond .eq 56, .aload 3, .iload 4, .iconst 2, .iload 10, .imul, .invokevirtual 106, .l2i, .istore 11, .iload 11, .iconst 0, .iconst 200, .invokestatic 182, .ifCond .eq 52, .aload 0, .aload 1, .iload 8, .iload 11, .invokevirtual 4, .i2l, .aload 3, .iload 4, .iconst 2, .iload 10, .imul, .iconst 1, .iadd, .invokevirtual 106, .lcmp, .ifCond .ne 52, .iconst 1, .goto 53, .iconst 0, .istore 9, .iinc 10 (1), .goto 16, .lload 6, .iload 9, .ifCond .eq 63, .sipush 1, .iload 8, .lshl, .goto 64, .sipush 0, .lor, .lstore 6, .iinc 8 (1), .goto 9, .lload 6, .lreturn]
/- BeastCave$Ahead.bestParting(J)I -/
def bc_c6 : List Instr := [.iconst 0, .istore 3, .iconst 61, .istore 4, .lload 1, .invokestatic 357, .istore 5, .iconst 0, .istore 6, .iload 6, .iconst 60, .if_icmp .gt 56, .iconst 0, .istore 7, .iconst 1, .istore 8, .iload 8, .iconst 60, .if_icmp .gt 41, .iload 7, .lload 1, .iload 8, .lshr, .sipush 1, .land, .sipush 0, .lcmp, .ifCond .eq 36, .aload 0, .getfield 1, .iload 6, .iaload, .iload 8, .if_icmp .le 36, .iconst 1, .goto 37, .iconst 0, .iadd, .istore 7, .iinc 8 (1), .goto 16, .iload 7, .iload 5, .iload 7, .isub, .ret 5, .istore 8, .iload 8, .iload 4, .if_icmp .ge 54, .iload 8, .istore 4, .iload 6, .istore 3, .iinc 6 (1), .goto 9, .iload 3, .ireturn]
/- BeastCave$Beasts.<init>()V -/
def bc_c7 : List Instr := [.aload 0, .ret 0, .aload 0, .iconst 25, .newarray .int, .putfield 65, .return_]
/- BeastCave$Beasts.clear()V -/
def bc_c8 : List Instr := [.aload 0, .iconst 0, .putfield 64, .aload 0, .getfield 65, .iconst 0, .invokestatic 361, .return_]
/- BeastCave$Beasts.copyOf(LBeastCave$Beasts;)V -/
def bc_c9 : List Instr := [.aload 0, .aload 1, .getfield 64, .putfield 64, .aload 1, .getfield 65, .iconst 0, .aload 0, .getfield 65, .iconst 0, .aload 0, .getfield 65, .arraylength, .ret 1, .return_]
/- BeastCave$Beasts.countRows(I[I)V -/
def bc_c10 : List Instr := [.iconst 0, .istore 3, .iload 3, .aload 0, .getfield 64, .if_icmp .ge 12, .aload 2, .iload 3, .iconst 1, .iastore, .iinc 3 (1), .goto 2, .iconst 1, .istore 3, .iload 3, .iload 1, .if_icmp .ge 66, .iconst 0, .istore 4, .iload 4, .aload 0, .getfield 64, .if_icmp .ge 58, .iconst 0, .istore 5, .iconst 0, .istore 6, .iload 6, .aload 0, .getfield 64, .if_icmp .ge 50, .iload 5, .aload 0, .getfield 65, .iload 6, .iconst 5, .imul, .iload 4, .iadd, .iaload, .ifCond .le 45, .aload 2, .iload 6, .iaload, .goto 46, .iconst 0, .iadd, .istore 5, .iinc 6 (1), .goto 27, .aload 2, .iconst 5, .iload 4, .iadd, .iload 5, .iastore, .iinc 4 (1), .goto 19, .aload 2, .iconst 5, .aload 2, .iconst 0, .iconst 5, .ret 1, .iinc 3 (1), .goto 14, .return_]
/- BeastCave$Beasts.greatestProduct(I[I)I -/
def bc_c11 : List Instr := [.iconst 0, .istore 3, .iconst 0, .istore 4, .iload 4, .iload 1, .if_icmp .ge 68, .iconst 0, .istore 3, .iconst 0, .istore 5, .iload 5, .aload 0, .getfield 64, .if_icmp .ge 66, .iload 4, .ifCond .ne 19, .iconst 1, .goto 20, .iconst 0, .istore 6, .iconst 0, .istore 7, .iload 7, .aload 0, .getfield 64, .if_icmp .ge 52, .iload 4, .ifCond .le 52, .iload 6, .aload 0, .getfield 65, .iload 5, .iconst 5, .imul, .iload 7, .iadd, .iaload, .aload 2, .iload 4, .iconst 1, .isub, .iconst 5, .imul, .iload 7, .iadd, .iaload, .imul, .ret 5, .istore 6, .iinc 7 (1), .goto 23, .aload 2, .iload 4, .iconst 5, .imul, .iload 5, .iadd, .iload 6, .iastore, .iload 3, .iload 6, .ret 5, .istore 3, .iinc 5 (1), .goto 11, .iinc 4 (1), .goto 4, .iload 3, .ireturn]
/- BeastCave$Beasts.inBestRow(II[I)I -/
def bc_c12 : List Instr := [.iconst (-1), .istore 4, .iconst 0, .istore 5, .iload 5, .iload 2, .if_icmp .gt 61, .iload 5, .iload 1, .if_icmp .ge 61, .iconst 0, .istore 6, .iconst (-1), .istore 7, .iconst 0, .istore 8, .iload 8, .aload 0, .getfield 64, .if_icmp .ge 57, .iload 4, .iconst (-1), .if_icmp .ne 25, .iconst 1, .goto 33, .aload 0, .getfield 65, .iload 4, .iconst 5, .imul, .iload 8, .iadd, .iaload, .istore 9, .iload 9, .aload 3, .iload 1, .iconst 1, .isub, .iload 5, .isub, .iconst 5, .imul, .iload 8, .iadd, .iaload, .imul, .istore 10, .iload 10, .iload 6, .if_icmp .le 55, .iload 10, .istore 6, .iload 8, .istore 7, .iinc 8 (1), .goto 16, .iload 7, .istore 4, .iinc 5 (1), .goto 4, .iload 4, .ireturn]
/- BeastCave$Cave.<init>()V -/
def bc_c13 : List Instr := [.aload 0, .ret 0, .aload 0, .iconst 60, .putfield 128, .aload 0, .iconst 4, .putfield 129, .aload 0, .new 1, .dup, .invokespecial 7, .putfield 132, .aload 0, .new 10, .dup, .invokespecial 110, .putfield 133, .aload 0, .new 4, .dup, .invokespecial 37, .putfield 134, .aload 0, .iconst 6, .newarray .int, .putfield 135, .aload 0, .iconst 6, .newarray .int, .putfield 136, .aload 0, .iconst 6, .newarray .int, .putfield 137, .aload 0, .iconst 30, .newarray .int, .putfield 138, .aload 0, .iconst 26, .newarray .long, .putfield 140, .aload 0, .iconst 26, .newarray .int, .putfield 141, .aload 0, .iconst 26, .newarray .int, .putfield 142, .return_]
/- BeastCave$Cave.clear()V -/
def bc_c14 : List Instr := [.aload 0, .iconst 60, .putfield 128, .aload 0, .iconst 4, .putfield 129, .aload 0, .iconst 0, .putfield 130, .aload 0, .iconst 0, .putfield 131, .aload 0, .iconst 0, .putfield 139, .aload 0, .getfield 132, .invokevirtual 8, .aload 0, .getfield 133, .invokevirtual 111, .aload 0, .getfield 134, .invokevirtual 38, .return_]
/- BeastCave$Cave.copyOf(LBeastCave$Cave;)V -/
def bc_c15 : List Instr := [.aload 0, .aload 1, .getfield 128, .putfield 128, .aload 0, .aload 1, .getfield 129, .putfield 129, .aload 0, .aload 1, .getfield 130, .putfield 130, .aload 0, .aload 1, .getfield 131, .putfield 131, .aload 0, .getfield 132, .aload 1, .getfield 132, .invokevirtual 9, .aload 0, .getfield 133, .aload 1, .getfield 133, .invokevirtual 112, .aload 0, .getfield 134, .aload 1, .getfield 134, .invokevirtual 39, .aload 1, .getfield 135, .iconst 0, .aload 0, .getfield 135, .iconst 0, .aload 0, .getfield 135, .arraylength, .ret 1, .aload 1, .getfield 136, .iconst 0, .aload 0, .getfield 136, .iconst 0, .aload 0, .getfield 136, .arraylength, .ret 1, .aload 1, .getfield 137, .iconst 0, .aload 0, .getfield 137, .iconst 0, .aload 0, .getfield 137, .arraylength, .ret 1, .aload 1, .getfield 138, .iconst 0, .aload 0, .getfield 138, .iconst 0, .aload 0, .getfield 138, .arraylength, .ret 1, .aload 0, .aload 1, .getfield 139, .putfield 139, .aload 1, .getfield 140, .iconst 0, .aload 0, .getfield 140, .iconst 0, .aload 0, .getfield 140, .arraylength, .ret 1, .aload 1, .getfield 141, .iconst 0, .aload 0, .getfield 141, .iconst 0, .aload 0, .getfield 141, .arraylength, .ret 1, .aload 1, .getfield 142, .iconst 0, .aload 0, .getfield 142, .iconst 0, .aload 0, .getfield 142, .arraylength, .ret 1, .return_]
/- BeastCave$Cave.addName(JII)V -/
def bc_c16 : List Instr := [.aload 0, .getfield 139, .iconst 26, .if_icmp .ge 28, .aload 0, .getfield 140, .aload 0, .getfield 139, .lload 1, .lastore, .aload 0, .getfield 141, .aload 0, .getfield 139, .iload 3, .iastore, .aload 0, .getfield 142, .aload 0, .getfield 139, .iload 4, .iastore, .aload 0, .dup, .getfield 139, .iconst 1, .iadd, .putfield 139, .return_]
/- BeastCave$Cave.isTaken(J)Z -/
def bc_c17 : List Instr := [.iconst 0, .istore 3, .iload 3, .aload 0, .getfield 139, .if_icmp .ge 17, .aload 0, .getfield 140, .iload 3, .laload, .lload 1, .lcmp, .ifCond .ne 15, .iconst 1, .ireturn, .iinc 3 (1), .goto 2, .iconst 0, .ireturn]
/- BeastCave$Cave.named(JI)I -/
def bc_c18 : List Instr := [.iconst 0, .istore 4, .iload 4, .aload 0, .getfield 139, .if_icmp .ge 26, .aload 0, .getfield 140, .iload 4, .laload, .lload 1, .lcmp, .ifCond .ne 24, .aload 0, .getfield 141, .iload 4, .iaload, .iload 3, .if_icmp .ne 24, .aload 0, .getfield 142, .iload 4, .iaload, .ireturn, .iinc 4 (1), .goto 2, .iconst (-1), .ireturn]
/- BeastCave$Cave.copyRow([II[II)V -/
def bc_c19 : List Instr := [.iconst 0, .istore 4, .iload 4, .iconst 5, .if_icmp .ge 17, .aload 2, .iload 3, .iload 4, .iadd, .aload 0, .iload 1, .iload 4, .iadd, .iaload, .iastore, .iinc 4 (1), .goto 2, .return_]
/- BeastCave$Cave.change([IIII)V -/
def bc_c20 : List Instr := [.iconst 0, .istore 4, .iload 4, .iconst 5, .if_icmp .ge 32, .aload 0, .iload 1, .iload 4, .iadd, .iaload, .istore 5, .aload 0, .iload 1, .iload 4, .iadd, .iload 4, .iload 2, .if_icmp .ne 24, .iload 5, .iload 3, .iadd, .iconst 99, .ret 6, .goto 29, .iload 5, .iconst 1, .isub, .iconst 0, .ret 5, .iastore, .iinc 4 (1), .goto 2, .return_]
/- BeastCave$Cave.greatest([II)I -/
def bc_c21 : List Instr := [.iconst 0, .istore 2, .iconst 0, .istore 3, .iload 3, .iconst 5, .if_icmp .ge 17, .iload 2, .aload 0, .iload 1, .iload 3, .iadd, .iaload, .ret 5, .istore 2, .iinc 3 (1), .goto 4, .iload 2, .ireturn]
/- BeastCave$Cave.foremost([II)I -/
def bc_c22 : List Instr := [.iconst 0, .istore 2, .iconst 1, .istore 3, .iload 3, .iconst 5, .if_icmp .ge 22, .aload 0, .iload 1, .iload 3, .iadd, .iaload, .aload 0, .iload 1, .iload 2, .iadd, .iaload, .if_icmp .le 20, .iload 3, .istore 2, .iinc 3 (1), .goto 4, .iload 2, .ireturn]
/- BeastCave$Cave.addVisitor(II)V -/
def bc_c23 : List Instr := [.aload 0, .getfield 135, .aload 0, .getfield 131, .iload 1, .iastore, .aload 0, .getfield 136, .aload 0, .getfield 131, .iload 2, .iastore, .aload 0, .getfield 137, .aload 0, .getfield 131, .iconst 0, .iastore, .iconst 0, .istore 3, .iload 3, .iconst 5, .if_icmp .ge 35, .aload 0, .getfield 138, .aload 0, .getfield 131, .iconst 5, .imul, .iload 3, .iadd, .iconst 0, .iastore, .iinc 3 (1), .goto 20, .aload 0, .dup, .getfield 131, .iconst 1, .iadd, .putfield 131, .return_]
/- BeastCave$Cave.greatestOf(I)I -/
def bc_c24 : List Instr := [.aload 0, .getfield 138, .iload 1, .iconst 5, .imul, .invokestatic 21, .ireturn]
/- BeastCave$Cave.isTurned(I)Z -/
def bc_c25 : List Instr := [.aload 0, .getfield 138, .iload 1, .iconst 5, .imul, .invokestatic 21, .aload 0, .getfield 135, .iload 1, .iaload, .if_icmp .le 13, .iconst 1, .goto 14, .iconst 0, .ireturn]
/- BeastCave$Cave.turnedOnes()I -/
def bc_c26 : List Instr := [.iconst 0, .istore 1, .iconst 0, .istore 2, .iload 2, .aload 0, .getfield 131, .if_icmp .ge 22, .iload 1, .aload 0, .iload 2, .invokevirtual 25, .ifCond .eq 17, .iconst 1, .iload 2, .ishl, .goto 18, .iconst 0, .ior, .istore 1, .iinc 2 (1), .goto 4, .iload 1, .ireturn]
/- BeastCave$Cave.goingOnes()I -/
def bc_c27 : List Instr := [.iconst 0, .istore 1, .iconst 0, .istore 2, .iload 2, .aload 0, .getfield 131, .if_icmp .ge 23, .iload 1, .aload 0, .getfield 137, .iload 2, .iaload, .ifCond .le 18, .iconst 1, .iload 2, .ishl, .goto 19, .iconst 0, .ior, .istore 1, .iinc 2 (1), .goto 4, .iload 1, .ireturn]
/- BeastCave$Cave.passMinute()I -/
def bc_c28 : List Instr := [.iconst 0, .istore 1, .iconst 0, .istore 2, .iload 2, .aload 0, .getfield 131, .if_icmp .ge 76, .aload 0, .iload 2, .invokevirtual 25, .istore 3, .aload 0, .getfield 137, .iload 2, .iaload, .ifCond .ne 22, .aload 0, .getfield 128, .ifCond .le 22, .iconst 1, .goto 23, .iconst 0, .istore 4, .aload 0, .getfield 138, .iload 2, .iconst 5, .imul, .iload 4, .ifCond .eq 40, .aload 0, .getfield 133, .getfield 642, .aload 0, .getfield 136, .iload 2, .iaload, .iaload, .goto 41, .iconst (-1), .aload 0, .getfield 133, .getfield 643, .aload 0, .getfield 136, .iload 2, .iaload, .iaload, .invokestatic 20, .aload 0, .getfield 137, .iload 2, .aload 0, .getfield 137, .iload 2, .iaload, .iconst 1, .isub, .iconst 0, .ret 5, .iastore, .iload 1, .iload 3, .ifCond .ne 71, .aload 0, .iload 2, .invokevirtual 25, .ifCond .eq 71, .iconst 1, .goto 72, .iconst 0, .iadd, .istore 1, .iinc 2 (1), .goto 4, .aload 0, .aload 0, .getfield 128, .iconst 1, .isub, .iconst 0, .ret 5, .putfield 128, .aload 0, .dup, .getfield 130, .iconst 1, .iadd, .putfield 130, .iload 1, .ireturn]
/- BeastCave$Cave.goTo(II)Z -/
def bc_c29 : List Instr := [.aload 0, .getfield 133, .getfield 644, .aload 0, .getfield 136, .iload 1, .iaload, .iconst 7, .imul, .iload 2, .iadd, .iaload, .istore 3, .iload 3, .ifCond .eq 24, .aload 0, .getfield 137, .iload 1, .iaload, .ifCond .gt 24, .aload 0, .iload 1, .invokevirtual 25, .ifCond .eq 26, .iconst 0, .ireturn, .aload 0, .getfield 136, .iload 1, .iload 2, .iastore, .aload 0, .getfield 137, .iload 1, .iload 3, .iastore, .iconst 1, .ireturn]
/- BeastCave$Cave.rouse(I)Z -/
def bc_c30 : List Instr := [.aload 0, .iload 1, .invokevirtual 24, .ifCond .ne 6, .iconst 0, .ireturn, .iconst 0, .istore 2, .iload 2, .iconst 5, .if_icmp .ge 25, .aload 0, .getfield 138, .iload 1, .iconst 5, .imul, .iload 2, .iadd, .dup2, .iaload, .iconst 2, .idiv, .iastore, .iinc 2 (1), .goto 8, .iconst 1, .ireturn]
/- BeastCave$Cave.addOil(I)Z -/
def bc_c31 : List Instr := [.aload 0, .getfield 128, .iconst 999, .iload 1, .isub, .if_icmp .le 8, .iconst 0, .ireturn, .aload 0, .dup, .getfield 128, .iload 1, .iadd, .putfield 128, .iconst 1, .ireturn]
/- BeastCave$Days.<init>()V -/
def bc_c32 : List Instr := [.aload 0, .ret 0, .aload 0, .iconst 60, .newarray .int, .putfield 195, .aload 0, .iconst 60, .newarray .int, .putfield 196, .aload 0, .iconst 60, .newarray .int, .putfield 197, .aload 0, .iconst 60, .newarray .int, .putfield 198, .aload 0, .iconst 60, .newarray .int, .putfield 199, .return_]
/- BeastCave$Days.clear()V -/
def bc_c33 : List Instr := [.aload 0, .iconst 0, .putfield 192, .aload 0, .iconst 0, .putfield 193, .aload 0, .iconst 0, .putfield 194, .return_]
/- BeastCave$Days.copyOf(LBeastCave$Days;)V -/
def bc_c34 : List Instr := [.aload 0, .aload 1, .getfield 192, .putfield 192, .aload 0, .aload 1, .getfield 193, .putfield 193, .aload 0, .aload 1, .getfield 194, .putfield 194, .aload 1, .getfield 195, .iconst 0, .aload 0, .getfield 195, .iconst 0, .aload 0, .getfield 194, .ret 1, .aload 1, .getfield 196, .iconst 0, .aload 0, .getfield 196, .iconst 0, .aload 0, .getfield 194, .ret 1, .aload 1, .getfield 197, .iconst 0, .aload 0, .getfield 197, .iconst 0, .aload 0, .getfield 194, .ret 1, .aload 1, .getfield 198, .iconst 0, .aload 0, .getfield 198, .iconst 0, .aload 0, .getfield 194, .ret 1, .aload 1, .getfield 199, .iconst 0, .aload 0, .getfield 199, .iconst 0, .aload 0, .getfield 194, .ret 1, .return_]
/- BeastCave$Days.add(IIII)I -/
def bc_c35 : List Instr := [.aload 0, .getfield 194, .iconst 60, .if_icmp .lt 6, .iconst (-1), .ireturn, .aload 0, .getfield 195, .aload 0, .getfield 194, .iload 1, .iastore, .aload 0, .getfield 196, .aload 0, .getfield 194, .iload 2, .iastore, .aload 0, .getfield 197, .aload 0, .getfield 194, .iload 3, .iastore, .aload 0, .getfield 198, .aload 0, .getfield 194, .iload 4, .iastore, .aload 0, .getfield 199, .aload 0, .getfield 194, .iconst (-1), .iastore, .aload 0, .dup, .getfield 194, .iconst 1, .iadd, .putfield 194, .aload 0, .dup, .getfield 193, .iload 1, .iconst 25, .if_icmp .ne 50, .iconst 0, .goto 51, .iconst 1, .iadd, .putfield 193, .aload 0, .getfield 194, .iconst 1, .isub, .ireturn]
/- BeastCave$Days.pair(II)V -/
def bc_c36 : List Instr := [.iload 1, .iconst 0, .aload 0, .getfield 194, .iconst 1, .isub, .invokestatic 182, .ifCond .eq 26, .iload 2, .iconst 0, .aload 0, .getfield 194, .iconst 1, .isub, .invokestatic 182, .ifCond .eq 26, .aload 0, .getfield 199, .iload 1, .iload 2, .iastore, .aload 0, .getfield 199, .iload 2, .iload 1, .iastore, .return_]
/- BeastCave$Figures.<init>()V -/
def bc_c37 : List Instr := [.aload 0, .ret 0, .aload 0, .iconst 8, .newarray .int, .putfield 257, .aload 0, .iconst 8, .newarray .int, .putfield 258, .aload 0, .iconst 8, .newarray .int, .putfield 259, .aload 0, .iconst 8, .newarray .int, .putfield 260, .return_]
/- BeastCave$Figures.clear()V -/
def bc_c38 : List Instr := [.aload 0, .iconst 0, .putfield 256, .return_]
/- BeastCave$Figures.copyOf(LBeastCave$Figures;)V -/
def bc_c39 : List Instr := [.aload 0, .aload 1, .getfield 256, .putfield 256, .aload 1, .getfield 257, .iconst 0, .aload 0, .getfield 257, .iconst 0, .aload 0, .getfield 257, .arraylength, .ret 1, .aload 1, .getfield 258, .iconst 0, .aload 0, .getfield 258, .iconst 0, .aload 0, .getfield 258, .arraylength, .ret 1, .aload 1, .getfield 259, .iconst 0, .aload 0, .getfield 259, .iconst 0, .aload 0, .getfield 259, .arraylength, .ret 1, .aload 1, .getfield 260, .iconst 0, .aload 0, .getfield 260, .iconst 0, .aload 0, .getfield 260, .arraylength, .ret 1, .return_]
/- BeastCave$Figures.add(III)V -/
def bc_c40 : List Instr := [.aload 0, .getfield 257, .aload 0, .getfield 256, .iload 1, .iastore, .aload 0, .getfield 258, .aload 0, .getfield 256, .iload 2, .iastore, .aload 0, .getfield 259, .aload 0, .getfield 256, .iload 3, .iastore, .aload 0, .getfield 260, .aload 0, .getfield 256, .iconst 0, .iastore, .aload 0, .dup, .getfield 256, .iconst 1, .iadd, .putfield 256, .return_]
/- BeastCave$Figures.countOrders([I)I -/
def bc_c41 : List Instr := [.iconst 1, .aload 0, .getfield 256, .ishl, .istore 2, .aload 1, .iconst 0, .iconst 1, .iastore, .iconst 1, .istore 3, .iload 3, .iload 2, .if_icmp .ge 56, .iconst 0, .istore 4, .iconst 0, .istore 5, .iload 5, .aload 0, .getfield 256, .if_icmp .ge 50, .iload 3, .iconst 1, .iload 5, .ishl, .iconst (-1), .ixor, .iand, .istore 6, .iload 6, .iload 3, .if_icmp .eq 48, .aload 0, .getfield 260, .iload 5, .iaload, .iload 6, .iconst (-1), .ixor, .iand, .ifCond .ne 48, .iload 4, .aload 1, .iload 6, .iaload, .iadd, .istore 4, .iinc 5 (1), .goto 18, .aload 1, .iload 3, .iload 4, .iastore, .iinc 3 (1), .goto 11, .aload 1, .iload 2, .iconst 1, .isub, .iaload, .ireturn]
/- BeastCave$Figures.inFirstOrder(I)I -/
def bc_c42 : List Instr := [.iconst 0, .istore 2, .iconst (-1), .istore 3, .iconst 0, .istore 4, .iload 4, .aload 0, .getfield 256, .if_icmp .ge 58, .iconst (-1), .istore 5, .iconst 0, .istore 6, .iload 6, .aload 0, .getfield 256, .if_icmp .ge 38, .iload 5, .iconst (-1), .if_icmp .ne 38, .iload 2, .iload 6, .invokestatic 183, .ifCond .ne 36, .aload 0, .getfield 260, .iload 6, .iaload, .iload 2, .iconst (-1), .ixor, .iand, .ifCond .ne 36, .iload 6, .istore 5, .iinc 6 (1), .goto 14, .iload 5, .iconst (-1), .if_icmp .ne 43, .iconst (-1), .ireturn, .iload 2, .iconst 1, .iload 5, .ishl, .ior, .istore 2, .iload 4, .iload 1, .if_icmp .ne 54, .iload 5, .goto 55, .iload 3, .istore 3, .iinc 4 (1), .goto 6, .iload 3, .ireturn]
/- BeastCave$Figures.allBelow(I)I -/
def bc_c43 : List Instr := [.aload 0, .getfield 260, .iload 1, .iaload, .istore 2, .iconst 0, .istore 3, .iload 3, .aload 0, .getfield 256, .if_icmp .ge 34, .iconst 0, .istore 4, .iload 4, .aload 0, .getfield 256, .if_icmp .ge 32, .iload 2, .iload 2, .iload 4, .invokestatic 183, .ifCond .eq 27, .aload 0, .getfield 260, .iload 4, .iaload, .goto 28, .iconst 0, .ior, .istore 2, .iinc 4 (1), .goto 13, .iinc 3 (1), .goto 7, .iload 2, .ireturn]
/- BeastCave$Figures.isLikeAll(III)Z -/
def bc_c44 : List Instr := [.iconst 0, .istore 4, .iload 4, .aload 0, .getfield 256, .if_icmp .ge 37, .iload 2, .iload 4, .invokestatic 183, .ifCond .eq 35, .aload 0, .getfield 258, .iload 4, .iaload, .aload 0, .getfield 258, .iload 1, .iaload, .isub, .ret 4, .aload 0, .getfield 259, .iload 4, .iaload, .aload 0, .getfield 259, .iload 1, .iaload, .isub, .ret 4, .iadd, .iload 3, .if_icmp .le 35, .iconst 0, .ireturn, .iinc 4 (1), .goto 2, .iconst 1, .ireturn]
/- BeastCave$Figures.findLikeSets(I[I)V -/
def bc_c45 : List Instr := [.aload 2, .iconst 0, .iconst 1, .iastore, .iconst 0, .istore 3, .iload 3, .aload 0, .getfield 256, .if_icmp .ge 42, .iconst 0, .istore 4, .iload 4, .iconst 1, .iload 3, .ishl, .if_icmp .ge 40, .aload 2, .iconst 1, .iload 3, .ishl, .iload 4, .ior, .aload 2, .iload 4, .iaload, .iconst 1, .if_icmp .ne 36, .aload 0, .iload 3, .iload 4, .iload 1, .invokevirtual 44, .ifCond .eq 36, .iconst 1, .goto 37, .iconst 0, .iastore, .iinc 4 (1), .goto 12, .iinc 3 (1), .goto 6, .return_]
/- BeastCave$Figures.fewestSets(I[I)I -/
def bc_c46 : List Instr := [.aload 0, .iload 1, .aload 2, .invokevirtual 45, .iconst 1, .aload 0, .getfield 256, .ishl, .istore 3, .aload 2, .iload 3, .iconst 0, .iastore, .iconst 1, .istore 4, .iload 4, .iload 3, .if_icmp .ge 58, .iconst 8, .istore 5, .iconst 1, .istore 6, .iload 6, .iload 4, .if_icmp .gt 50, .iload 6, .iload 4, .iconst (-1), .ixor, .iand, .ifCond .ne 48, .aload 2, .iload 6, .iaload, .iconst 1, .if_icmp .ne 48, .iload 5, .iconst 1, .aload 2, .iload 3, .iload 4, .iload 6, .ixor, .iadd, .iaload, .iadd, .ret 6, .istore 5, .iinc 6 (1), .goto 22, .aload 2, .iload 3, .iload 4, .iadd, .iload 5, .iastore, .iinc 4 (1), .goto 15, .aload 2, .iload 3, .iload 3, .iadd, .iconst 1, .isub, .iaload, .ireturn]
/- BeastCave$Figures.greatestSet(I[I)I -/
def bc_c47 : List Instr := [.aload 0, .iload 1, .aload 2, .invokevirtual 45, .iconst 0, .istore 3, .iconst 1, .istore 4, .iload 4, .iconst 1, .aload 0, .getfield 256, .ishl, .if_icmp .ge 28, .aload 2, .iload 4, .iaload, .iconst 1, .if_icmp .ne 26, .iload 4, .invokestatic 356, .iload 3, .invokestatic 356, .if_icmp .le 26, .iload 4, .istore 3, .iinc 4 (1), .goto 8, .iload 3, .ireturn]
/- BeastCave$Life.<init>()V -/
def bc_c48 : List Instr := [.aload 0, .ret 0, .aload 0, .iconst 60, .newarray .int, .putfield 329, .return_]
/- BeastCave$Life.run(LBeastCave$Cave;LBeastCave$Days;I)V -/
def bc_c49 : List Instr := [.aload 0, .aload 1, .putfield 326, .aload 0, .aload 2, .putfield 327, .aload 0, .iload 3, .putfield 328, .aload 0, .iconst 0, .putfield 320, .aload 0, .iconst 0, .putfield 321, .aload 0, .iconst 0, .putfield 322, .aload 0, .iconst 0, .putfield 323, .aload 0, .iconst 0, .putfield 324, .aload 0, .iconst 0, .putfield 325, .iconst 0, .istore 4, .iconst 0, .istore 5, .iload 5, .iconst 1000000, .if_icmp .ge 73, .iload 4, .ifCond .lt 73, .iload 4, .aload 0, .getfield 327, .getfield 194, .if_icmp .ge 73, .aload 0, .getfield 327, .getfield 195, .iload 4, .iaload, .iconst 25, .if_icmp .ne 53, .aload 0, .iload 4, .invokevirtual 50, .istore 4, .goto 71, .aload 0, .getfield 320, .iconst 300, .if_icmp .lt 61, .aload 0, .iconst 1, .putfield 325, .return_, .aload 0, .dup, .getfield 320, .iconst 1, .iadd, .putfield 320, .aload 0, .iload 4, .invokevirtual 51, .istore 4, .iinc 5 (1), .goto 31, .return_]
/- BeastCave$Life.behindEnd(I)I -/
def bc_c50 : List Instr := [.aload 0, .getfield 327, .getfield 199, .iload 1, .iaload, .istore 2, .iload 2, .ifCond .lt 32, .aload 0, .getfield 327, .getfield 195, .iload 2, .iaload, .iconst 24, .if_icmp .ne 32, .aload 0, .getfield 329, .iload 2, .dup2, .iaload, .iconst 1, .isub, .iastore, .aload 0, .getfield 329, .iload 2, .iaload, .ifCond .le 32, .iload 2, .iconst 1, .iadd, .ireturn, .iload 1, .iconst 1, .iadd, .ireturn]
/- BeastCave$Life.behindStep(I)I -/
def bc_c51 : List Instr := [.aload 0, .getfield 327, .getfield 198, .iload 1, .iaload, .istore 2, .iconst 1, .istore 3, .aload 0, .getfield 327, .getfield 195, .iload 1, .iaload, .lookupswitch 73 #[(16, 40), (17, 73), (18, 45), (19, 67), (20, 73), (21, 18), (22, 73), (23, 73), (24, 34), (25, 73), (26, 14)], .aload 0, .getfield 327, .getfield 194, .ireturn, .aload 0, .iload 1, .invokevirtual 53, .ifCond .eq 26, .iload 1, .iconst 1, .iadd, .goto 33, .aload 0, .getfield 327, .getfield 199, .iload 1, .iaload, .iconst 1, .iadd, .ireturn, .aload 0, .getfield 329, .iload 1, .iload 2, .iastore, .goto 77, .aload 0, .iload 2, .invokevirtual 54, .istore 3, .goto 77, .aload 0, .aload 0, .getfield 327, .getfield 197, .iload 1, .iaload, .invokevirtual 52, .ifCond .eq 64, .aload 0, .getfield 326, .aload 0, .getfield 327, .getfield 197, .iload 1, .iaload, .invokevirtual 30, .ifCond .eq 64, .iconst 1, .goto 65, .iconst 0, .istore 3, .goto 77, .aload 0, .getfield 326, .iload 2, .invokevirtual 31, .istore 3, .goto 77, .aload 0, .iload 1, .invokevirtual 55, .istore 3, .aload 0, .dup, .getfield 321, .iload 3, .ifCond .eq 84, .iconst 0, .goto 85, .iconst 1, .iadd, .putfield 321, .iload 1, .iconst 1, .iadd, .ireturn]
/- BeastCave$Life.isThere(I)Z -/
def bc_c52 : List Instr := [.iload 1, .iconst 0, .aload 0, .getfield 326, .getfield 131, .iconst 1, .isub, .invokestatic 182, .ireturn]
/- BeastCave$Life.holds(I)Z -/
def bc_c53 : List Instr := [.aload 0, .getfield 327, .getfield 197, .iload 1, .iaload, .istore 2, .aload 0, .getfield 327, .getfield 196, .iload 1, .iaload, .iconst 23, .if_icmp .ne 21, .aload 0, .getfield 326, .getfield 128, .ifCond .ne 19, .iconst 1, .goto 20, .iconst 0, .ireturn, .aload 0, .iload 2, .invokevirtual 52, .ifCond .ne 27, .iconst 0, .ireturn, .aload 0, .getfield 327, .getfield 196, .iload 1, .iaload, .lookupswitch 81 #[(10, 38), (22, 33), (60, 53), (62, 67)], .aload 0, .getfield 326, .iload 2, .invokevirtual 25, .ireturn, .aload 0, .getfield 326, .getfield 136, .iload 2, .iaload, .aload 0, .getfield 327, .getfield 198, .iload 1, .iaload, .if_icmp .ne 51, .iconst 1, .goto 52, .iconst 0, .ireturn, .aload 0, .getfield 326, .iload 2, .invokevirtual 24, .aload 0, .getfield 327, .getfield 198, .iload 1, .iaload, .if_icmp .ge 65, .iconst 1, .goto 66, .iconst 0, .ireturn, .aload 0, .getfield 326, .iload 2, .invokevirtual 24, .aload 0, .getfield 327, .getfield 198, .iload 1, .iaload, .if_icmp .le 79, .iconst 1, .goto 80, .iconst 0, .ireturn, .aload 0, .getfield 326, .iload 2, .invokevirtual 24, .aload 0, .getfield 327, .getfield 198, .iload 1, .iaload, .if_icmp .ne 93, .iconst 1, .goto 94, .iconst 0, .ireturn]
/- BeastCave$Life.letPass(I)Z -/
def bc_c54 : List Instr := [.aload 0, .getfield 326, .getfield 130, .iconst 9999, .iload 1, .isub, .if_icmp .le 9, .iconst 0, .ireturn, .iconst 0, .istore 2, .iload 2, .iload 1, .if_icmp .ge 24, .aload 0, .dup, .getfield 324, .aload 0, .getfield 326, .invokevirtual 28, .iadd, .putfield 324, .iinc 2 (1), .goto 11, .aload 0, .dup, .getfield 322, .iload 1, .iadd, .putfield 322, .iconst 1, .ireturn]
/- BeastCave$Life.leadOne(I)Z -/
def bc_c55 : List Instr := [.aload 0, .getfield 327, .getfield 197, .iload 1, .iaload, .istore 2, .aload 0, .getfield 327, .getfield 198, .iload 1, .iaload, .istore 3, .aload 0, .getfield 327, .getfield 195, .iload 1, .iaload, .iconst 20, .if_icmp .ne 38, .aload 0, .getfield 326, .getfield 131, .ifCond .ne 25, .iconst 0, .ireturn, .aload 0, .aload 0, .getfield 326, .getfield 131, .invokevirtual 56, .istore 2, .aload 0, .aload 0, .getfield 326, .getfield 133, .getfield 640, .invokevirtual 56, .istore 3, .aload 0, .iload 2, .invokevirtual 52, .ifCond .eq 58, .iload 3, .iconst 0, .aload 0, .getfield 326, .getfield 133, .getfield 640, .iconst 1, .isub, .invokestatic 182, .ifCond .eq 58, .aload 0, .getfield 326, .iload 2, .iload 3, .invokevirtual 29, .ifCond .ne 60, .iconst 0, .ireturn, .aload 0, .dup, .getfield 323, .iconst 1, .iadd, .putfield 323, .iconst 1, .ireturn]
/- BeastCave$Life.pick(I)I -/
def bc_c56 : List Instr := [.aload 0, .aload 0, .getfield 328, .iconst 3191, .imul, .iconst 11423, .iadd, .iconst 65536, .irem, .putfield 328, .iload 1, .ifCond .le 19, .aload 0, .getfield 328, .iconst 8, .idiv, .iload 1, .irem, .goto 20, .iconst (-1), .ireturn]
/- BeastCave$Reader.<init>(LBeastCave$Text;)V -/
def bc_c57 : List Instr := [.aload 0, .ret 0, .aload 0, .iconst 12, .newarray .int, .putfield 389, .aload 0, .iconst 3, .newarray .int, .putfield 391, .aload 0, .aload 1, .putfield 384, .return_]
/- BeastCave$Reader.takeCave(ILBeastCave$Cave;)Z -/
def bc_c58 : List Instr := [.aload 0, .aload 2, .putfield 385, .aload 0, .getfield 385, .invokevirtual 14, .aload 0, .iconst 0, .putfield 387, .aload 0, .iconst 0, .putfield 388, .aload 0, .getfield 384, .iload 1, .invokevirtual 89, .iconst 0, .istore 3, .iload 3, .iload 1, .if_icmp .gt 37, .aload 0, .getfield 384, .invokevirtual 90, .ifCond .ne 37, .aload 0, .invokevirtual 59, .ifCond .eq 33, .aload 0, .getfield 384, .iconst 59, .invokevirtual 94, .ifCond .ne 35, .iconst 0, .ireturn, .iinc 3 (1), .goto 18, .aload 0, .getfield 385, .getfield 133, .invokevirtual 117, .iconst 1, .ireturn]
/- BeastCave$Reader.takePart()Z -/
def bc_c59 : List Instr := [.aload 0, .getfield 384, .getfield 516, .lookupswitch 31 #[(0, 4), (1, 7), (2, 10), (3, 13), (4, 31), (5, 31), (6, 16), (7, 31), (8, 19), (9, 31), (10, 31), (11, 22), (12, 31), (13, 25), (14, 28)], .aload 0, .invokevirtual 62, .ireturn, .aload 0, .invokevirtual 63, .ireturn, .aload 0, .invokevirtual 64, .ireturn, .aload 0, .invokevirtual 65, .ireturn, .aload 0, .invokevirtual 66, .ireturn, .aload 0, .invokevirtual 67, .ireturn, .aload 0, .invokevirtual 68, .ireturn, .aload 0, .invokevirtual 69, .ireturn, .aload 0, .invokevirtual 70, .ireturn, .aload 0, .getfield 384, .iconst 2, .invokevirtual 92, .ireturn]
/- BeastCave$Reader.newName(II)Z -/
def bc_c60 : List Instr := [.aload 0, .getfield 384, .invokevirtual 91, .ifCond .ne 9, .aload 0, .getfield 384, .iconst 2, .invokevirtual 92, .ireturn, .aload 0, .getfield 385, .aload 0, .getfield 384, .getfield 517, .invokevirtual 17, .ifCond .eq 21, .aload 0, .getfield 384, .iconst 3, .invokevirtual 92, .ireturn, .aload 0, .getfield 385, .aload 0, .getfield 384, .getfield 517, .iload 1, .iload 2, .invokevirtual 16, .aload 0, .getfield 384, .invokevirtual 96, .iconst 1, .ireturn]
/- BeastCave$Reader.knownName(II)Z -/
def bc_c61 : List Instr := [.aload 0, .getfield 384, .invokevirtual 91, .ifCond .ne 9, .aload 0, .getfield 384, .iconst 2, .invokevirtual 92, .ireturn, .aload 0, .getfield 385, .aload 0, .getfield 384, .getfield 517, .iload 1, .invokevirtual 18, .istore 3, .iload 3, .iconst (-1), .if_icmp .ne 25, .aload 0, .getfield 384, .iconst 3, .invokevirtual 92, .ireturn, .iload 3, .iload 2, .if_icmp .ne 33, .aload 0, .getfield 384, .iconst 5, .invokevirtual 92, .ireturn, .aload 0, .getfield 389, .iload 1, .iload 3, .iastore, .aload 0, .getfield 384, .invokevirtual 96, .iconst 1, .ireturn]
/- BeastCave$Reader.takeLamp()Z -/
def bc_c62 : List Instr := [.aload 0, .getfield 387, .ifCond .eq 8, .aload 0, .getfield 384, .iconst 5, .invokevirtual 92, .ireturn, .aload 0, .iconst 1, .putfield 387, .aload 0, .getfield 384, .invokevirtual 96, .aload 0, .getfield 384, .iconst 0, .iconst 99, .invokevirtual 95, .ifCond .ne 22, .iconst 0, .ireturn, .aload 0, .getfield 385, .aload 0, .getfield 384, .getfield 515, .putfield 128, .iconst 1, .ireturn]
/- BeastCave$Reader.takeOdds()Z -/
def bc_c63 : List Instr := [.aload 0, .getfield 388, .ifCond .eq 8, .aload 0, .getfield 384, .iconst 5, .invokevirtual 92, .ireturn, .aload 0, .iconst 1, .putfield 388, .aload 0, .getfield 384, .invokevirtual 96, .aload 0, .getfield 384, .iconst 0, .iconst 16, .invokevirtual 95, .ifCond .ne 22, .iconst 0, .ireturn, .aload 0, .getfield 385, .aload 0, .getfield 384, .getfield 515, .putfield 129, .iconst 1, .ireturn]
/- BeastCave$Reader.takeBeast()Z -/
def bc_c64 : List Instr := [.aload 0, .getfield 385, .getfield 132, .getfield 64, .iconst 5, .if_icmp .lt 11, .aload 0, .getfield 384, .iconst 6, .invokevirtual 92, .ireturn, .aload 0, .getfield 384, .invokevirtual 96, .aload 0, .iconst 2, .aload 0, .getfield 385, .getfield 132, .getfield 64, .invokevirtual 60, .ifCond .ne 24, .iconst 0, .ireturn, .aload 0, .getfield 385, .getfield 132, .dup, .getfield 64, .iconst 1, .iadd, .putfield 64, .iconst 1, .ireturn]
/- BeastCave$Reader.takeWall()Z -/
def bc_c65 : List Instr := [.aload 0, .getfield 385, .getfield 133, .getfield 640, .iconst 7, .if_icmp .lt 11, .aload 0, .getfield 384, .iconst 6, .invokevirtual 92, .ireturn, .aload 0, .getfield 384, .invokevirtual 96, .aload 0, .iconst 3, .aload 0, .getfield 385, .getfield 133, .getfield 640, .invokevirtual 60, .ifCond .ne 24, .iconst 0, .ireturn, .aload 0, .getfield 384, .getfield 516, .iconst 4, .if_icmp .eq 37, .aload 0, .getfield 385, .getfield 133, .iconst (-1), .iconst 0, .invokevirtual 113, .iconst 1, .ireturn, .aload 0, .getfield 384, .invokevirtual 96, .aload 0, .iconst 2, .iconst (-1), .invokevirtual 61, .ifCond .eq 56, .aload 0, .getfield 384, .iconst 5, .invokevirtual 93, .ifCond .eq 56, .aload 0, .getfield 384, .iconst 1, .iconst 9, .invokevirtual 95, .ifCond .ne 58, .iconst 0, .ireturn, .aload 0, .getfield 385, .getfield 133, .aload 0, .getfield 389, .iconst 2, .iaload, .aload 0, .getfield 384, .getfield 515, .invokevirtual 113, .iconst 1, .ireturn]
/- BeastCave$Reader.takeWay()Z -/
def bc_c66 : List Instr := [.aload 0, .getfield 385, .getfield 133, .getfield 641, .iconst 10, .if_icmp .lt 11, .aload 0, .getfield 384, .iconst 6, .invokevirtual 92, .ireturn, .aload 0, .getfield 384, .invokevirtual 96, .aload 0, .iconst 3, .iconst (-1), .invokevirtual 61, .ifCond .ne 21, .iconst 0, .ireturn, .aload 0, .getfield 389, .iconst 3, .iaload, .istore 1, .aload 0, .iconst 3, .iload 1, .invokevirtual 61, .ifCond .eq 42, .aload 0, .getfield 384, .iconst 7, .invokevirtual 93, .ifCond .eq 42, .aload 0, .getfield 384, .iconst 1, .iconst 9, .invokevirtual 95, .ifCond .ne 44, .iconst 0, .ireturn, .aload 0, .getfield 385, .getfield 133, .iload 1, .aload 0, .getfield 389, .iconst 3, .iaload, .aload 0, .getfield 384, .getfield 515, .invokevirtual 114, .iconst 1, .ireturn]
/- BeastCave$Reader.takeVisitor()Z -/
def bc_c67 : List Instr := [.aload 0, .getfield 385, .getfield 131, .iconst 6, .if_icmp .lt 10, .aload 0, .getfield 384, .iconst 6, .invokevirtual 92, .ireturn, .aload 0, .getfield 384, .invokevirtual 96, .aload 0, .iconst 8, .aload 0, .getfield 385, .getfield 131, .invokevirtual 60, .ifCond .eq 31, .aload 0, .getfield 384, .iconst 9, .invokevirtual 93, .ifCond .eq 31, .aload 0, .getfield 384, .iconst 1, .iconst 60, .invokevirtual 95, .ifCond .ne 33, .iconst 0, .ireturn, .aload 0, .getfield 384, .getfield 515, .istore 1, .aload 0, .getfield 384, .iconst 10, .invokevirtual 93, .ifCond .eq 47, .aload 0, .iconst 3, .iconst (-1), .invokevirtual 61, .ifCond .ne 49, .iconst 0, .ireturn, .aload 0, .getfield 385, .iload 1, .aload 0, .getfield 389, .iconst 3, .iaload, .invokevirtual 23, .iconst 1, .ireturn]
/- BeastCave$Reader.takeFigure()Z -/
def bc_c68 : List Instr := [.aload 0, .getfield 385, .getfield 134, .getfield 256, .iconst 8, .if_icmp .lt 11, .aload 0, .getfield 384, .iconst 6, .invokevirtual 92, .ireturn, .aload 0, .getfield 384, .invokevirtual 96, .aload 0, .iconst 11, .aload 0, .getfield 385, .getfield 134, .getfield 256, .invokevirtual 60, .ifCond .eq 43, .aload 0, .getfield 384, .iconst 4, .invokevirtual 93, .ifCond .eq 43, .aload 0, .iconst 2, .iconst (-1), .invokevirtual 61, .ifCond .eq 43, .aload 0, .getfield 384, .iconst 12, .invokevirtual 93, .ifCond .eq 43, .aload 0, .getfield 384, .iconst 0, .iconst 9, .invokevirtual 95, .ifCond .ne 45, .iconst 0, .ireturn, .aload 0, .getfield 384, .getfield 515, .istore 1, .aload 0, .getfield 384, .iconst 0, .iconst 9, .invokevirtual 95, .ifCond .ne 57, .iconst 0, .ireturn, .aload 0, .getfield 385, .getfield 134, .aload 0, .getfield 389, .iconst 2, .iaload, .iload 1, .aload 0, .getfield 384, .getfield 515, .invokevirtual 40, .iconst 1, .ireturn]
/- BeastCave$Reader.takeOver()Z -/
def bc_c69 : List Instr := [.aload 0, .getfield 384, .invokevirtual 96, .aload 0, .iconst 11, .iconst (-1), .invokevirtual 61, .ifCond .ne 10, .iconst 0, .ireturn, .aload 0, .getfield 389, .iconst 11, .iaload, .istore 1, .aload 0, .iconst 11, .iload 1, .invokevirtual 61, .ifCond .ne 22, .iconst 0, .ireturn, .aload 0, .getfield 385, .getfield 134, .getfield 260, .iload 1, .dup2, .iaload, .iconst 1, .aload 0, .getfield 389, .iconst 11, .iaload, .ishl, .ior, .iastore, .iconst 1, .ireturn]
/- BeastCave$Reader.takeFollows()Z -/
def bc_c70 : List Instr := [.aload 0, .getfield 384, .invokevirtual 96, .aload 0, .iconst 2, .iconst (-1), .invokevirtual 61, .ifCond .ne 10, .iconst 0, .ireturn, .aload 0, .getfield 389, .iconst 2, .iaload, .istore 1, .aload 0, .iconst 2, .iconst (-1), .invokevirtual 61, .ifCond .eq 31, .aload 0, .getfield 384, .iconst 15, .invokevirtual 93, .ifCond .eq 31, .aload 0, .getfield 384, .iconst 1, .iconst 9, .invokevirtual 95, .ifCond .ne 33, .iconst 0, .ireturn, .aload 0, .getfield 385, .getfield 132, .getfield 65, .iload 1, .iconst 5, .imul, .aload 0, .getfield 389, .iconst 2, .iaload, .iadd, .aload 0, .getfield 384, .getfield 515, .iastore, .iconst 1, .ireturn]
/- BeastCave$Reader.takeDays(ILBeastCave$Cave;LBeastCave$Days;)Z -/
def bc_c71 : List Instr := [.aload 0, .aload 2, .putfield 385, .aload 0, .aload 3, .putfield 386, .aload 0, .getfield 386, .invokevirtual 33, .aload 0, .iconst 0, .putfield 390, .aload 0, .getfield 384, .iload 1, .invokevirtual 89, .iconst 0, .istore 4, .iload 4, .iload 1, .if_icmp .gt 47, .aload 0, .getfield 384, .invokevirtual 90, .ifCond .ne 47, .aload 0, .getfield 384, .getfield 516, .iconst 25, .if_icmp .ne 33, .aload 0, .invokevirtual 72, .goto 35, .aload 0, .invokevirtual 73, .istore 5, .iload 5, .ifCond .eq 43, .aload 0, .getfield 384, .iconst 59, .invokevirtual 94, .ifCond .ne 45, .iconst 0, .ireturn, .iinc 4 (1), .goto 18, .aload 0, .getfield 390, .ifCond .le 55, .aload 0, .getfield 384, .iconst 2, .invokevirtual 92, .ireturn, .aload 0, .getfield 386, .iconst 1, .putfield 192, .iconst 1, .ireturn]
/- BeastCave$Reader.takeEnd()Z -/
def bc_c72 : List Instr := [.aload 0, .getfield 390, .ifCond .le 9, .aload 0, .getfield 390, .aload 0, .getfield 391, .arraylength, .if_icmp .le 14, .aload 0, .getfield 384, .iconst 2, .invokevirtual 92, .ireturn, .aload 0, .dup, .getfield 390, .iconst 1, .isub, .putfield 390, .aload 0, .getfield 386, .aload 0, .getfield 391, .aload 0, .getfield 390, .iaload, .aload 0, .getfield 386, .iconst 25, .iconst (-1), .iconst (-1), .iconst (-1), .invokevirtual 35, .invokevirtual 36, .aload 0, .getfield 384, .invokevirtual 96, .iconst 1, .ireturn]
/- BeastCave$Reader.takeStep()Z -/
def bc_c73 : List Instr := [.aload 0, .getfield 384, .getfield 516, .istore 1, .iload 1, .invokestatic 74, .ifCond .ne 12, .aload 0, .getfield 384, .iconst 2, .invokevirtual 92, .ireturn, .aload 0, .getfield 386, .getfield 193, .iconst 30, .if_icmp .lt 22, .aload 0, .getfield 384, .iconst 6, .invokevirtual 92, .ireturn, .iload 1, .iconst 21, .if_icmp .eq 28, .iload 1, .iconst 24, .if_icmp .ne 30, .iconst 1, .goto 31, .iconst 0, .istore 2, .iload 2, .ifCond .eq 45, .aload 0, .getfield 390, .aload 0, .getfield 391, .arraylength, .if_icmp .lt 45, .aload 0, .getfield 384, .iconst 7, .invokevirtual 92, .ireturn, .aload 0, .getfield 384, .invokevirtual 96, .aload 0, .iconst (-1), .putfield 392, .iload 1, .iconst 21, .if_icmp .ne 58, .aload 0, .invokevirtual 76, .ifCond .ne 64, .goto 62, .aload 0, .iload 1, .invokevirtual 75, .ifCond .ne 64, .iconst 0, .ireturn, .iload 1, .iconst 17, .if_icmp .eq 71, .aload 0, .getfield 392, .iconst 10, .if_icmp .ne 73, .iconst 1, .goto 74, .iconst 0, .istore 3, .aload 0, .getfield 386, .iload 1, .aload 0, .getfield 392, .aload 0, .getfield 389, .iconst 8, .iaload, .iload 3, .ifCond .eq 91, .aload 0, .getfield 389, .iconst 3, .iaload, .goto 94, .aload 0, .getfield 384, .getfield 515, .invokevirtual 35, .istore 4, .iload 2, .ifCond .eq 110, .aload 0, .getfield 391, .aload 0, .getfield 390, .iload 4, .iastore, .aload 0, .dup, .getfield 390, .iconst 1, .iadd, .putfield 390, .iconst 1, .ireturn]
/- BeastCave$Reader.isStep(I)Z -/
def bc_c74 : List Instr := [.iload 0, .lookupswitch 4 #[(16, 2), (17, 2), (18, 2), (19, 2), (20, 2), (21, 2), (22, 4), (23, 4), (24, 2), (25, 4), (26, 2)], .iconst 1, .ireturn, .iconst 0, .ireturn]
/- BeastCave$Reader.takeRest(I)Z -/
def bc_c75 : List Instr := [.iload 1, .lookupswitch 39 #[(16, 2), (17, 8), (18, 22), (19, 27), (20, 39), (21, 39), (22, 39), (23, 39), (24, 33)], .aload 0, .getfield 384, .iconst 1, .iconst 60, .invokevirtual 95, .ireturn, .aload 0, .iconst 8, .iconst (-1), .invokevirtual 61, .ifCond .eq 20, .aload 0, .iconst 3, .iconst (-1), .invokevirtual 61, .ifCond .eq 20, .iconst 1, .goto 21, .iconst 0, .ireturn, .aload 0, .iconst 8, .iconst (-1), .invokevirtual 61, .ireturn, .aload 0, .getfield 384, .iconst 1, .iconst 99, .invokevirtual 95, .ireturn, .aload 0, .getfield 384, .iconst 1, .iconst 99, .invokevirtual 95, .ireturn, .iconst 1, .ireturn]
/- BeastCave$Reader.takeTest()Z -/
def bc_c76 : List Instr := [.aload 0, .aload 0, .getfield 384, .getfield 516, .putfield 392, .aload 0, .getfield 392, .iconst 22, .if_icmp .eq 26, .aload 0, .getfield 392, .iconst 10, .if_icmp .eq 26, .aload 0, .getfield 392, .iconst 23, .if_icmp .eq 26, .aload 0, .getfield 392, .iconst 9, .if_icmp .eq 26, .aload 0, .getfield 384, .iconst 2, .invokevirtual 92, .ireturn, .aload 0, .getfield 384, .invokevirtual 96, .aload 0, .getfield 392, .iconst 23, .if_icmp .ne 35, .iconst 1, .ireturn, .aload 0, .iconst 8, .iconst (-1), .invokevirtual 61, .ifCond .ne 42, .iconst 0, .ireturn, .aload 0, .getfield 392, .iconst 10, .if_icmp .ne 51, .aload 0, .iconst 3, .iconst (-1), .invokevirtual 61, .ireturn, .aload 0, .getfield 392, .iconst 22, .if_icmp .ne 57, .iconst 1, .ireturn, .aload 0, .aload 0, .getfield 384, .getfield 518, .putfield 392, .aload 0, .getfield 392, .iconst 60, .if_icmp .eq 79, .aload 0, .getfield 392, .iconst 62, .if_icmp .eq 79, .aload 0, .getfield 392, .iconst 61, .if_icmp .eq 79, .aload 0, .getfield 384, .iconst 2, .invokevirtual 92, .ireturn, .aload 0, .getfield 384, .invokevirtual 96, .aload 0, .getfield 384, .iconst 0, .iconst 99, .invokevirtual 95, .ireturn]
/- BeastCave$Search.<init>()V -/
def bc_c77 : List Instr := [.aload 0, .ret 0, .aload 0, .iconst 5, .newarray .int, .putfield 449, .aload 0, .iconst 5, .newarray .int, .putfield 451, .aload 0, .iconst 30, .newarray .int, .putfield 452, .aload 0, .iconst 7, .newarray .int, .putfield 453, .return_]
/- BeastCave$Search.start(LBeastCave$Cave;I)V -/
def bc_c78 : List Instr := [.aload 0, .aload 1, .getfield 133, .putfield 454, .aload 0, .aload 1, .getfield 135, .iload 2, .iaload, .putfield 455, .aload 0, .aload 1, .getfield 128, .putfield 456, .aload 1, .getfield 138, .iload 2, .iconst 5, .imul, .aload 0, .getfield 452, .iconst 0, .invokestatic 19, .return_]
/- BeastCave$Search.findTour(LBeastCave$Cave;III)Z -/
def bc_c79 : List Instr := [.aload 0, .aload 1, .iload 2, .invokevirtual 78, .aload 0, .iload 4, .putfield 457, .aload 0, .iconst (-1), .putfield 448, .aload 0, .iconst 0, .aload 1, .getfield 136, .iload 2, .iaload, .iload 3, .iconst 0, .invokevirtual 80, .aload 0, .getfield 448, .iconst (-1), .if_icmp .eq 25, .iconst 1, .goto 26, .iconst 0, .ireturn]
/- BeastCave$Search.goOn(IIII)V -/
def bc_c80 : List Instr := [.iload 3, .ifCond .ne 22, .aload 0, .getfield 448, .iconst (-1), .if_icmp .eq 10, .iload 4, .aload 0, .getfield 448, .if_icmp .ge 21, .aload 0, .iload 4, .putfield 448, .aload 0, .getfield 451, .iconst 0, .aload 0, .getfield 449, .iconst 0, .iconst 5, .ret 1, .return_, .iload 1, .iconst 5, .if_icmp .lt 26, .return_, .iconst 0, .istore 5, .iload 5, .aload 0, .getfield 454, .getfield 640, .if_icmp .ge 82, .aload 0, .getfield 454, .getfield 645, .iload 2, .iconst 7, .imul, .iload 5, .iadd, .iaload, .istore 6, .iload 3, .iload 5, .invokestatic 183, .ifCond .eq 80, .iload 6, .iconst (-1), .if_icmp .eq 80, .aload 0, .iload 1, .iload 6, .iload 5, .invokevirtual 81, .ifCond .eq 80, .aload 0, .getfield 451, .iload 1, .iload 5, .iastore, .aload 0, .iload 1, .iconst 1, .iadd, .iload 5, .iload 3, .iconst 1, .iload 5, .ishl, .iconst (-1), .ixor, .iand, .iload 4, .iload 6, .iadd, .aload 0, .getfield 457, .iadd, .invokevirtual 80, .iinc 5 (1), .goto 28, .return_]
/- BeastCave$Search.staysHimself(III)Z -/
def bc_c81 : List Instr := [.iload 1, .iconst 1, .iadd, .iconst 5, .imul, .istore 4, .aload 0, .getfield 452, .iload 1, .iconst 5, .imul, .aload 0, .getfield 452, .iload 4, .invokestatic 19, .iconst 0, .istore 5, .iload 5, .iload 2, .if_icmp .ge 28, .aload 0, .getfield 452, .iload 4, .iconst (-1), .iconst 0, .invokestatic 20, .iinc 5 (1), .goto 17, .iconst 0, .istore 5, .iload 5, .aload 0, .getfield 457, .if_icmp .ge 59, .aload 0, .getfield 452, .iload 4, .aload 0, .getfield 454, .getfield 642, .iload 3, .iaload, .aload 0, .getfield 454, .getfield 643, .iload 3, .iaload, .invokestatic 20, .aload 0, .getfield 452, .iload 4, .invokestatic 21, .aload 0, .getfield 455, .if_icmp .le 57, .iconst 0, .ireturn, .iinc 5 (1), .goto 30, .iconst 1, .ireturn]
/- BeastCave$Search.playGame(LBeastCave$Cave;II)I -/
def bc_c82 : List Instr := [.aload 0, .aload 1, .iload 2, .invokevirtual 78, .aload 0, .iload 3, .iconst 4, .ret 6, .putfield 458, .aload 0, .iconst (-1), .putfield 450, .aload 0, .getfield 454, .getfield 643, .iconst 0, .aload 0, .getfield 453, .iconst 0, .iconst 7, .ret 1, .aload 0, .iconst 0, .aload 1, .getfield 136, .iload 2, .iaload, .aload 1, .getfield 137, .iload 2, .iaload, .invokevirtual 83, .ireturn]
/- BeastCave$Search.valueOf(III)I -/
def bc_c83 : List Instr := [.iload 1, .aload 0, .getfield 458, .if_icmp .lt 14, .aload 0, .getfield 455, .aload 0, .getfield 452, .iload 1, .iconst 5, .imul, .invokestatic 21, .isub, .ireturn, .iload 1, .iconst 2, .irem, .ifCond .ne 24, .aload 0, .iload 1, .iload 2, .iload 3, .invokevirtual 84, .goto 29, .aload 0, .iload 1, .iload 2, .iload 3, .invokevirtual 85, .ireturn]
/- BeastCave$Search.bestOfGuide(III)I -/
def bc_c84 : List Instr := [.iconst (-1), .istore 4, .iconst (-1), .istore 5, .iconst 0, .istore 6, .iload 3, .ifCond .ne 19, .aload 0, .getfield 452, .iload 1, .iconst 5, .imul, .invokestatic 21, .aload 0, .getfield 455, .if_icmp .gt 19, .iconst 1, .goto 20, .iconst 0, .istore 7, .iconst 0, .istore 8, .iload 8, .aload 0, .getfield 454, .getfield 640, .if_icmp .ge 61, .iload 7, .ifCond .eq 61, .aload 0, .getfield 454, .getfield 644, .iload 2, .iconst 7, .imul, .iload 8, .iadd, .iaload, .istore 9, .iload 9, .ifCond .le 59, .aload 0, .iload 1, .iload 8, .iload 9, .invokevirtual 86, .istore 10, .iload 6, .ifCond .eq 53, .iload 10, .iload 4, .if_icmp .le 59, .iload 10, .istore 4, .iload 8, .istore 5, .iconst 1, .istore 6, .iinc 8 (1), .goto 23, .aload 0, .iload 1, .iload 2, .iload 3, .invokevirtual 86, .istore 8, .iload 6, .ifCond .eq 72, .iload 8, .iload 4, .if_icmp .le 76, .iload 8, .istore 4, .iconst (-1), .istore 5, .iload 1, .ifCond .ne 81, .aload 0, .iload 5, .putfield 450, .iload 4, .ireturn]
/- BeastCave$Search.bestOfBeast(III)I -/
def bc_c85 : List Instr := [.aload 0, .iload 1, .iload 2, .iload 3, .invokevirtual 86, .istore 4, .iconst 0, .istore 5, .iload 5, .aload 0, .getfield 454, .getfield 640, .if_icmp .ge 52, .aload 0, .getfield 454, .getfield 642, .iload 5, .iaload, .iconst (-1), .if_icmp .eq 50, .aload 0, .getfield 453, .iload 5, .iaload, .iconst 9, .if_icmp .ge 50, .aload 0, .getfield 453, .iload 5, .dup2, .iaload, .iconst 1, .iadd, .iastore, .iload 4, .aload 0, .iload 1, .iload 2, .iload 3, .invokevirtual 86, .ret 6, .istore 4, .aload 0, .getfield 453, .iload 5, .dup2, .iaload, .iconst 1, .isub, .iastore, .iinc 5 (1), .goto 8, .iload 4, .ireturn]
/- BeastCave$Search.behindMinute(III)I -/
def bc_c86 : List Instr := [.iload 1, .iconst 1, .iadd, .iconst 5, .imul, .istore 4, .iload 3, .ifCond .ne 14, .aload 0, .getfield 456, .iload 1, .if_icmp .le 14, .iconst 1, .goto 15, .iconst 0, .istore 5, .aload 0, .getfield 452, .iload 1, .iconst 5, .imul, .aload 0, .getfield 452, .iload 4, .invokestatic 19, .aload 0, .getfield 452, .iload 4, .iload 5, .ifCond .eq 36, .aload 0, .getfield 454, .getfield 642, .iload 2, .iaload, .goto 37, .iconst (-1), .aload 0, .getfield 453, .iload 2, .iaload, .invokestatic 20, .aload 0, .iload 1, .iconst 1, .iadd, .iload 2, .iload 3, .iconst 1, .isub, .iconst 0, .ret 5, .invokevirtual 83, .ireturn]
/- BeastCave$Text.<init>()V -/
def bc_c87 : List Instr := [.aload 0, .ret 0, .aload 0, .iconst (-1), .putfield 513, .aload 0, .iconst (-1), .putfield 514, .aload 0, .iconst (-1), .putfield 516, .aload 0, .iconst 900, .newarray .byte, .putfield 519, .aload 0, .iconst 27, .newarray .long, .putfield 520, .iconst 0, .istore 1, .sipush 0, .lstore 2, .iconst 0, .istore 4, .iload 4, .ldc 0, .ret 2, .if_icmp .ge 61, .iload 1, .iconst 27, .if_icmp .ge 61, .ldc 0, .iload 4, .ret 3, .istore 5, .iload 5, .iconst 32, .if_icmp .ne 48, .aload 0, .getfield 520, .iload 1, .lload 2, .lastore, .sipush 0, .lstore 2, .iinc 1 (1), .goto 59, .lload 2, .sipush 32, .lmul, .iload 5, .iconst 97, .isub, .iconst 1, .iadd, .i2l, .ladd, .lstore 2, .iinc 4 (1), .goto 25, .return_]
/- BeastCave$Text.append(I)V -/
def bc_c88 : List Instr := [.iconst 24, .istore 2, .iload 2, .ifCond .lt 25, .aload 0, .getfield 512, .iconst 900, .if_icmp .ge 25, .aload 0, .getfield 519, .aload 0, .getfield 512, .iload 1, .iload 2, .ishr, .i2b, .bastore, .aload 0, .dup, .getfield 512, .iconst 1, .iadd, .putfield 512, .iinc 2 (-8), .goto 2, .return_]
/- BeastCave$Text.begin(I)V -/
def bc_c89 : List Instr := [.aload 0, .iload 1, .aload 0, .getfield 512, .ret 6, .putfield 521, .aload 0, .iconst 0, .putfield 512, .aload 0, .iconst 0, .putfield 522, .aload 0, .iconst 0, .putfield 513, .aload 0, .iconst (-1), .putfield 514, .aload 0, .invokevirtual 96, .return_]
/- BeastCave$Text.isAtEnd()Z -/
def bc_c90 : List Instr := [.aload 0, .getfield 524, .ifCond .ne 5, .iconst 1, .goto 6, .iconst 0, .ireturn]
/- BeastCave$Text.isName()Z -/
def bc_c91 : List Instr := [.aload 0, .getfield 524, .iconst 1, .if_icmp .ne 14, .aload 0, .getfield 516, .iconst (-1), .if_icmp .ne 14, .aload 0, .getfield 525, .iconst 8, .if_icmp .gt 14, .iconst 1, .goto 15, .iconst 0, .ireturn]
/- BeastCave$Text.fail(I)Z -/
def bc_c92 : List Instr := [.aload 0, .aload 0, .getfield 524, .iconst 4, .if_icmp .ne 7, .iconst 1, .goto 8, .iload 1, .putfield 513, .aload 0, .aload 0, .getfield 523, .putfield 514, .iconst 0, .ireturn]
/- BeastCave$Text.needWord(I)Z -/
def bc_c93 : List Instr := [.aload 0, .getfield 516, .iload 1, .if_icmp .eq 8, .aload 0, .iconst 2, .invokevirtual 92, .ireturn, .aload 0, .invokevirtual 96, .iconst 1, .ireturn]
/- BeastCave$Text.needSign(C)Z -/
def bc_c94 : List Instr := [.aload 0, .getfield 518, .iload 1, .if_icmp .eq 8, .aload 0, .iconst 2, .invokevirtual 92, .ireturn, .aload 0, .invokevirtual 96, .iconst 1, .ireturn]
/- BeastCave$Text.needNumber(II)Z -/
def bc_c95 : List Instr := [.aload 0, .getfield 524, .iconst 2, .if_icmp .eq 8, .aload 0, .iconst 2, .invokevirtual 92, .ireturn, .aload 0, .getfield 526, .iload 1, .if_icmp .lt 16, .aload 0, .getfield 526, .iload 2, .if_icmp .le 20, .aload 0, .iconst 4, .invokevirtual 92, .ireturn, .aload 0, .aload 0, .getfield 526, .putfield 515, .aload 0, .invokevirtual 96, .iconst 1, .ireturn]
/- BeastCave$Text.advance()V -/
def bc_c96 : List Instr := [.aload 0, .getfield 522, .aload 0, .getfield 521, .if_icmp .ge 26, .aload 0, .getfield 519, .aload 0, .getfield 522, .baload, .iconst 10, .if_icmp .eq 19, .aload 0, .getfield 519, .aload 0, .getfield 522, .baload, .iconst 32, .if_icmp .ne 26, .aload 0, .dup, .getfield 522, .iconst 1, .iadd, .putfield 522, .goto 0, .aload 0, .aload 0, .getfield 522, .putfield 523, .aload 0, .iconst (-1), .putfield 516, .aload 0, .iconst (-1), .putfield 518, .aload 0, .getfield 522, .aload 0, .getfield 521, .if_icmp .lt 45, .aload 0, .iconst 0, .putfield 524, .goto 81, .aload 0, .getfield 519, .aload 0, .getfield 522, .baload, .iconst 97, .if_icmp .lt 62, .aload 0, .getfield 519, .aload 0, .getfield 522, .baload, .iconst 122, .if_icmp .gt 62, .aload 0, .invokevirtual 97, .goto 81, .aload 0, .getfield 519, .aload 0, .getfield 522, .baload, .iconst 48, .if_icmp .lt 79, .aload 0, .getfield 519, .aload 0, .getfield 522, .baload, .iconst 57, .if_icmp .gt 79, .aload 0, .invokevirtual 98, .goto 81, .aload 0, .invokevirtual 99, .return_]
/- BeastCave$Text.takeWord()V -/
def bc_c97 : List Instr := [.aload 0, .iconst 1, .putfield 524, .aload 0, .sipush 0, .putfield 517, .aload 0, .iconst 0, .putfield 525, .aload 0, .getfield 522, .aload 0, .getfield 521, .if_icmp .ge 58, .aload 0, .getfield 519, .aload 0, .getfield 522, .baload, .iconst 97, .if_icmp .lt 58, .aload 0, .getfield 519, .aload 0, .getfield 522, .baload, .iconst 122, .if_icmp .gt 58, .aload 0, .aload 0, .getfield 517, .sipush 32, .lmul, .aload 0, .getfield 519, .aload 0, .getfield 522, .baload, .iconst 97, .isub, .iconst 1, .iadd, .i2l, .ladd, .putfield 517, .aload 0, .dup, .getfield 525, .iconst 1, .iadd, .putfield 525, .aload 0, .dup, .getfield 522, .iconst 1, .iadd, .putfield 522, .goto 9, .iconst 0, .istore 1, .iload 1, .iconst 27, .if_icmp .ge 80, .aload 0, .getfield 525, .iconst 8, .if_icmp .gt 80, .aload 0, .getfield 520, .iload 1, .laload, .aload 0, .getfield 517, .lcmp, .ifCond .ne 78, .aload 0, .iload 1, .putfield 516, .iinc 1 (1), .goto 60, .return_]
/- BeastCave$Text.takeNumber()V -/
def bc_c98 : List Instr := [.iconst 0, .istore 1, .aload 0, .iconst 0, .putfield 526, .aload 0, .getfield 522, .aload 0, .getfield 521, .if_icmp .ge 52, .aload 0, .getfield 519, .aload 0, .getfield 522, .baload, .iconst 48, .if_icmp .lt 52, .aload 0, .getfield 519, .aload 0, .getfield 522, .baload, .iconst 57, .if_icmp .gt 52, .aload 0, .iload 1, .iconst 4, .if_icmp .ge 41, .aload 0, .getfield 526, .iconst 10, .imul, .aload 0, .getfield 519, .aload 0, .getfield 522, .baload, .iconst 48, .isub, .iadd, .goto 43, .aload 0, .getfield 526, .putfield 526, .iinc 1 (1), .aload 0, .dup, .getfield 522, .iconst 1, .iadd, .putfield 522, .goto 5, .aload 0, .iload 1, .iconst 4, .if_icmp .gt 58, .iconst 2, .goto 59, .iconst 4, .putfield 524, .return_]
/- BeastCave$Text.takeSign()V -/
def bc_c99 : List Instr := [.aload 0, .getfield 519, .aload 0, .getfield 522, .baload, .istore 1, .iload 1, .iconst 59, .if_icmp .eq 18, .iload 1, .iconst 60, .if_icmp .eq 18, .iload 1, .iconst 62, .if_icmp .eq 18, .iload 1, .iconst 61, .if_icmp .ne 20, .iconst 1, .goto 21, .iconst 0, .istore 2, .aload 0, .iload 2, .ifCond .eq 27, .iconst 3, .goto 28, .iconst 4, .putfield 524, .aload 0, .iload 2, .ifCond .eq 34, .iload 1, .goto 35, .iconst (-1), .putfield 518, .aload 0, .dup, .getfield 522, .iconst 1, .iadd, .putfield 522, .return_]
/- BeastCave$Trays.<init>()V -/
def bc_c100 : List Instr := [.aload 0, .ret 0, .aload 0, .iconst 4, .newarray .int, .dup, .iconst 0, .iconst (-1), .iastore, .dup, .iconst 1, .iconst (-1), .iastore, .dup, .iconst 2, .iconst (-1), .iastore, .dup, .iconst 3, .iconst (-1), .iastore, .putfield 576, .aload 0, .iconst 4, .newarray .int, .putfield 577, .aload 0, .iconst 240, .newarray .long, .putfield 578, .return_]
/- BeastCave$Trays.isTray(I)Z -/
def bc_c101 : List Instr := [.iload 0, .iconst 0, .iconst 3, .invokestatic 182, .ireturn]
/- BeastCave$Trays.isMissing(I)Z -/
def bc_c102 : List Instr := [.aload 0, .getfield 576, .iload 1, .iaload, .iconst (-1), .if_icmp .ne 8, .iconst 1, .goto 9, .iconst 0, .ireturn]
/- BeastCave$Trays.sortOf(I)I -/
def bc_c103 : List Instr := [.aload 0, .getfield 576, .iload 1, .iaload, .ireturn]
/- BeastCave$Trays.reaches(III)Z -/
def bc_c104 : List Instr := [.iload 2, .aload 0, .getfield 577, .iload 1, .iaload, .if_icmp .gt 16, .iload 3, .aload 0, .getfield 577, .iload 1, .iaload, .iload 2, .isub, .if_icmp .gt 16, .iconst 1, .goto 17, .iconst 0, .ireturn]
/- BeastCave$Trays.lay(III)V -/
def bc_c105 : List Instr := [.aload 0, .getfield 576, .iload 1, .iload 2, .iastore, .aload 0, .getfield 577, .iload 1, .iload 3, .iastore, .iconst 0, .istore 4, .iload 4, .iload 3, .if_icmp .ge 26, .aload 0, .getfield 578, .iload 1, .iconst 60, .imul, .iload 4, .iadd, .sipush 0, .lastore, .iinc 4 (1), .goto 12, .return_]
/- BeastCave$Trays.at(II)J -/
def bc_c106 : List Instr := [.aload 0, .getfield 578, .iload 1, .iconst 60, .imul, .iload 2, .iadd, .laload, .lreturn]
/- BeastCave$Trays.put(IIJ)V -/
def bc_c107 : List Instr := [.aload 0, .getfield 578, .iload 1, .iconst 60, .imul, .iload 2, .iadd, .lload 3, .aload 0, .getfield 576, .iload 1, .iaload, .invokestatic 108, .lastore, .return_]
/- BeastCave$Trays.cut(JI)J -/
def bc_c108 : List Instr := [.iload 2, .lookupswitch 16 #[(0, 2), (1, 7), (2, 12)], .lload 0, .l2i, .i2b, .i2l, .lreturn, .lload 0, .l2i, .i2s, .i2l, .lreturn, .lload 0, .l2i, .i2l, .lreturn, .lload 0, .lreturn]
/- BeastCave$Trays.move(IIIII)V -/
def bc_c109 : List Instr := [.aload 0, .getfield 578, .iload 1, .iconst 60, .imul, .iload 2, .iadd, .aload 0, .getfield 578, .iload 3, .iconst 60, .imul, .iload 4, .iadd, .iload 5, .ret 1, .return_]
/- BeastCave$Walls.<init>()V -/
def bc_c110 : List Instr := [.aload 0, .ret 0, .aload 0, .iconst 7, .newarray .int, .putfield 642, .aload 0, .iconst 7, .newarray .int, .putfield 643, .aload 0, .iconst 49, .newarray .int, .putfield 644, .aload 0, .iconst 49, .newarray .int, .putfield 645, .return_]
/- BeastCave$Walls.clear()V -/
def bc_c111 : List Instr := [.aload 0, .iconst 0, .putfield 640, .aload 0, .iconst 0, .putfield 641, .aload 0, .getfield 644, .iconst 0, .invokestatic 361, .return_]
/- BeastCave$Walls.copyOf(LBeastCave$Walls;)V -/
def bc_c112 : List Instr := [.aload 0, .aload 1, .getfield 640, .putfield 640, .aload 0, .aload 1, .getfield 641, .putfield 641, .aload 1, .getfield 642, .iconst 0, .aload 0, .getfield 642, .iconst 0, .aload 0, .getfield 642, .arraylength, .ret 1, .aload 1, .getfield 643, .iconst 0, .aload 0, .getfield 643, .iconst 0, .aload 0, .getfield 643, .arraylength, .ret 1, .aload 1, .getfield 644, .iconst 0, .aload 0, .getfield 644, .iconst 0, .aload 0, .getfield 644, .arraylength, .ret 1, .aload 1, .getfield 645, .iconst 0, .aload 0, .getfield 645, .iconst 0, .aload 0, .getfield 645, .arraylength, .ret 1, .return_]
/- BeastCave$Walls.add(II)V -/
def bc_c113 : List Instr := [.aload 0, .getfield 642, .aload 0, .getfield 640, .iload 1, .iastore, .aload 0, .getfield 643, .aload 0, .getfield 640, .iload 2, .iastore, .aload 0, .dup, .getfield 640, .iconst 1, .iadd, .putfield 640, .return_]
/- BeastCave$Walls.join(III)V -/
def bc_c114 : List Instr := [.iload 1, .iconst 7, .imul, .iload 2, .iadd, .istore 4, .aload 0, .getfield 644, .iload 4, .iaload, .ifCond .eq 17, .iload 3, .aload 0, .getfield 644, .iload 4, .iaload, .if_icmp .ge 31, .aload 0, .getfield 644, .iload 4, .iload 3, .iastore, .aload 0, .getfield 644, .iload 2, .iconst 7, .imul, .iload 1, .iadd, .iload 3, .iastore, .aload 0, .dup, .getfield 641, .iconst 1, .iadd, .putfield 641, .return_]
/- BeastCave$Walls.bareOnes()I -/
def bc_c115 : List Instr := [.iconst 0, .istore 1, .iconst 0, .istore 2, .iload 2, .aload 0, .getfield 640, .if_icmp .ge 24, .iload 1, .aload 0, .getfield 642, .iload 2, .iaload, .iconst (-1), .if_icmp .ne 19, .iconst 1, .iload 2, .ishl, .goto 20, .iconst 0, .ior, .istore 1, .iinc 2 (1), .goto 4, .iload 1, .ireturn]
/- BeastCave$Walls.nextTo(I)I -/
def bc_c116 : List Instr := [.iconst 0, .istore 2, .iconst 0, .istore 3, .iload 3, .aload 0, .getfield 640, .if_icmp .ge 27, .iload 2, .aload 0, .getfield 644, .iload 1, .iconst 7, .imul, .iload 3, .iadd, .iaload, .ifCond .le 22, .iconst 1, .iload 3, .ishl, .goto 23, .iconst 0, .ior, .istore 2, .iinc 3 (1), .goto 4, .iload 2, .ireturn]
/- BeastCave$Walls.measureDistances()V -/
def bc_c117 : List Instr := [.iconst 0, .istore 1, .iload 1, .aload 0, .getfield 640, .if_icmp .ge 42, .iconst 0, .istore 2, .iload 2, .aload 0, .getfield 640, .if_icmp .ge 40, .iload 1, .iconst 7, .imul, .iload 2, .iadd, .istore 3, .aload 0, .getfield 645, .iload 3, .iload 1, .iload 2, .if_icmp .ne 26, .iconst 0, .goto 37, .aload 0, .getfield 644, .iload 3, .iaload, .ifCond .le 36, .aload 0, .getfield 644, .iload 3, .iaload, .goto 37, .iconst (-1), .iastore, .iinc 2 (1), .goto 8, .iinc 1 (1), .goto 2, .iconst 0, .istore 1, .iload 1, .aload 0, .getfield 640, .if_icmp .ge 71, .iconst 0, .istore 2, .iload 2, .aload 0, .getfield 640, .if_icmp .ge 69, .iconst 0, .istore 3, .iload 3, .aload 0, .getfield 640, .if_icmp .ge 67, .aload 0, .iload 2, .iload 3, .iload 1, .invokevirtual 118, .iinc 3 (1), .goto 56, .iinc 2 (1), .goto 50, .iinc 1 (1), .goto 44, .return_]
/- BeastCave$Walls.shorten(III)V -/
def bc_c118 : List Instr := [.aload 0, .getfield 645, .iload 1, .iconst 7, .imul, .iload 3, .iadd, .iaload, .istore 4, .aload 0, .getfield 645, .iload 3, .iconst 7, .imul, .iload 2, .iadd, .iaload, .istore 5, .iload 1, .iconst 7, .imul, .iload 2, .iadd, .istore 6, .iload 4, .iconst (-1), .if_icmp .eq 51, .iload 5, .iconst (-1), .if_icmp .eq 51, .aload 0, .getfield 645, .iload 6, .iaload, .iconst (-1), .if_icmp .eq 44, .iload 4, .iload 5, .iadd, .aload 0, .getfield 645, .iload 6, .iaload, .if_icmp .ge 51, .aload 0, .getfield 645, .iload 6, .iload 4, .iload 5, .iadd, .iastore, .return_]
/- BeastCave.<init>()V -/
def bc_c119 : List Instr := [.aload 0, .ret 0, .aload 0, .sipush 1, .putfield 706, .aload 0, .iconst 5, .newarray .int, .putfield 708, .aload 0, .new 9, .dup, .invokespecial 100, .putfield 709, .aload 0, .new 8, .dup, .invokespecial 87, .putfield 710, .aload 0, .new 6, .dup, .aload 0, .getfield 710, .invokespecial 57, .putfield 711, .aload 0, .new 5, .dup, .invokespecial 48, .putfield 712, .aload 0, .new 0, .dup, .invokespecial 1, .putfield 713, .aload 0, .new 7, .dup, .invokespecial 77, .putfield 714, .aload 0, .iconst 512, .newarray .int, .putfield 715, .aload 0, .new 2, .dup, .invokespecial 13, .putfield 716, .aload 0, .new 2, .dup, .invokespecial 13, .putfield 717, .aload 0, .new 3, .dup, .invokespecial 32, .putfield 718, .aload 0, .new 3, .dup, .invokespecial 32, .putfield 719, .aload 0, .iconst 3, .anewarray 2, .putfield 721, .aload 0, .iconst 3, .anewarray 3, .putfield 722, .iconst 0, .istore 1, .iload 1, .iconst 3, .if_icmp .ge 94, .aload 0, .getfield 721, .iload 1, .new 2, .dup, .invokespecial 13, .aastore, .aload 0, .getfield 722, .iload 1, .new 3, .dup, .invokespecial 32, .aastore, .iinc 1 (1), .goto 75, .return_]
/- BeastCave.status()I -/
def bc_c120 : List Instr := [.aload 0, .getfield 704, .ireturn]
/- BeastCave.top()J -/
def bc_c121 : List Instr := [.aload 0, .getfield 705, .lreturn]
/- BeastCave.bottom()J -/
def bc_c122 : List Instr := [.aload 0, .getfield 706, .lreturn]
/- BeastCave.tray(III)Z -/
def bc_c123 : List Instr := [.iload 1, .invokestatic 101, .ifCond .eq 13, .iload 2, .iconst 0, .iconst 3, .invokestatic 182, .ifCond .eq 13, .iload 3, .iconst 0, .iconst 60, .invokestatic 182, .ifCond .ne 17, .aload 0, .iconst 1, .invokevirtual 181, .ireturn, .aload 0, .getfield 709, .iload 1, .iload 2, .iload 3, .invokevirtual 105, .aload 0, .invokevirtual 180, .ireturn]
/- BeastCave.write(IIJ)Z -/
def bc_c124 : List Instr := [.aload 0, .iload 1, .iload 2, .invokevirtual 188, .istore 5, .iload 5, .ifCond .eq 11, .aload 0, .iload 5, .invokevirtual 181, .ireturn, .aload 0, .getfield 709, .iload 1, .iload 2, .lload 3, .invokevirtual 107, .aload 0, .invokevirtual 180, .ireturn]
/- BeastCave.read(II)J -/
def bc_c125 : List Instr := [.aload 0, .iload 1, .iload 2, .invokevirtual 188, .istore 3, .iload 3, .ifCond .eq 12, .aload 0, .iload 3, .invokevirtual 179, .i2l, .lreturn, .aload 0, .iconst 0, .putfield 704, .aload 0, .getfield 709, .iload 1, .iload 2, .invokevirtual 106, .lreturn]
/- BeastCave.pour(IIIII)Z -/
def bc_c126 : List Instr := [.iload 1, .invokestatic 101, .ifCond .eq 12, .iload 3, .invokestatic 101, .ifCond .eq 12, .iload 2, .ifCond .lt 12, .iload 4, .ifCond .lt 12, .iload 5, .ifCond .ge 16, .aload 0, .iconst 1, .invokevirtual 181, .ireturn, .aload 0, .getfield 709, .iload 1, .invokevirtual 102, .ifCond .ne 26, .aload 0, .getfield 709, .iload 3, .invokevirtual 102, .ifCond .eq 30, .aload 0, .iconst 2, .invokevirtual 181, .ireturn, .aload 0, .getfield 709, .iload 1, .invokevirtual 103, .aload 0, .getfield 709, .iload 3, .invokevirtual 103, .if_icmp .eq 43, .aload 0, .iconst 8, .invokevirtual 181, .ireturn, .aload 0, .getfield 709, .iload 1, .iload 2, .iload 5, .invokevirtual 104, .ifCond .eq 57, .aload 0, .getfield 709, .iload 3, .iload 4, .iload 5, .invokevirtual 104, .ifCond .ne 61, .aload 0, .iconst 3, .invokevirtual 181, .ireturn, .aload 0, .getfield 709, .iload 1, .iload 2, .iload 3, .iload 4, .iload 5, .invokevirtual 109, .aload 0, .invokevirtual 180, .ireturn]
/- BeastCave.feed(IIIII)I -/
def bc_c127 : List Instr := [.aload 0, .getfield 710, .getfield 512, .iconst 880, .if_icmp .le 7, .iconst (-1), .ireturn, .aload 0, .getfield 710, .iload 1, .invokevirtual 88, .aload 0, .getfield 710, .iload 2, .invokevirtual 88, .aload 0, .getfield 710, .iload 3, .invokevirtual 88, .aload 0, .getfield 710, .iload 4, .invokevirtual 88, .aload 0, .getfield 710, .iload 5, .invokevirtual 88, .aload 0, .getfield 710, .getfield 512, .ireturn]
/- BeastCave.cave(I)I -/
def bc_c128 : List Instr := [.iload 1, .iconst 0, .aload 0, .getfield 710, .getfield 512, .invokestatic 182, .ifCond .ne 11, .aload 0, .iconst 1, .invokevirtual 179, .ireturn, .aload 0, .getfield 711, .iload 1, .aload 0, .getfield 717, .invokevirtual 58, .istore 2, .iload 2, .ifCond .ne 24, .aload 0, .iconst 9, .invokevirtual 179, .ireturn, .aload 0, .getfield 716, .astore 3, .aload 0, .aload 0, .getfield 717, .putfield 716, .aload 0, .aload 3, .putfield 717, .aload 0, .getfield 718, .invokevirtual 33, .aload 0, .aload 0, .getfield 716, .getfield 131, .invokevirtual 178, .ireturn]
/- BeastCave.days(I)I -/
def bc_c129 : List Instr := [.iload 1, .iconst 0, .aload 0, .getfield 710, .getfield 512, .iconst 300, .ret 6, .invokestatic 182, .ifCond .ne 13, .aload 0, .iconst 1, .invokevirtual 179, .ireturn, .aload 0, .getfield 711, .iload 1, .aload 0, .getfield 716, .aload 0, .getfield 719, .invokevirtual 71, .istore 2, .iload 2, .ifCond .ne 28, .aload 0, .iconst 9, .invokevirtual 179, .ireturn, .aload 0, .getfield 718, .astore 3, .aload 0, .aload 0, .getfield 719, .putfield 718, .aload 0, .aload 3, .putfield 719, .aload 0, .aload 0, .getfield 718, .getfield 193, .invokevirtual 178, .ireturn]
/- BeastCave.fault(I)I -/
def bc_c130 : List Instr := [.iload 1, .ifCond .ne 6, .aload 0, .getfield 710, .getfield 513, .ireturn, .iload 1, .iconst 1, .if_icmp .ne 13, .aload 0, .getfield 710, .getfield 514, .goto 14, .iconst (-1), .ireturn]
/- BeastCave.told(I)I -/
def bc_c131 : List Instr := [.iload 1, .lookupswitch 66 #[(0, 2), (1, 9), (2, 16), (3, 22), (4, 29), (5, 35), (6, 41), (7, 47), (8, 54), (9, 60)], .aload 0, .aload 0, .getfield 716, .getfield 132, .getfield 64, .invokevirtual 178, .ireturn, .aload 0, .aload 0, .getfield 716, .getfield 133, .getfield 640, .invokevirtual 178, .ireturn, .aload 0, .aload 0, .getfield 716, .getfield 131, .invokevirtual 178, .ireturn, .aload 0, .aload 0, .getfield 716, .getfield 134, .getfield 256, .invokevirtual 178, .ireturn, .aload 0, .aload 0, .getfield 716, .getfield 128, .invokevirtual 178, .ireturn, .aload 0, .aload 0, .getfield 716, .getfield 129, .invokevirtual 178, .ireturn, .aload 0, .aload 0, .getfield 716, .getfield 130, .invokevirtual 178, .ireturn, .aload 0, .aload 0, .getfield 716, .getfield 133, .invokevirtual 115, .invokevirtual 178, .ireturn, .aload 0, .aload 0, .getfield 716, .invokevirtual 26, .invokevirtual 178, .ireturn, .aload 0, .aload 0, .getfield 716, .invokevirtual 27, .invokevirtual 178, .ireturn, .aload 0, .iconst 1, .invokevirtual 179, .ireturn]
/- BeastCave.wall(II)I -/
def bc_c132 : List Instr := [.aload 0, .iload 1, .invokevirtual 185, .ifCond .eq 9, .iload 2, .iconst 0, .iconst 1, .invokestatic 182, .ifCond .ne 13, .aload 0, .iconst 1, .invokevirtual 179, .ireturn, .aload 0, .getfield 716, .getfield 133, .getfield 642, .iload 1, .iaload, .iconst (-1), .if_icmp .ne 25, .aload 0, .iconst 6, .invokevirtual 179, .ireturn, .aload 0, .iload 2, .ifCond .ne 35, .aload 0, .getfield 716, .getfield 133, .getfield 642, .iload 1, .iaload, .goto 41, .aload 0, .getfield 716, .getfield 133, .getfield 643, .iload 1, .iaload, .invokevirtual 178, .ireturn]
/- BeastCave.visitor(II)I -/
def bc_c133 : List Instr := [.aload 0, .iload 1, .invokevirtual 186, .ifCond .ne 8, .aload 0, .iconst 1, .invokevirtual 179, .ireturn, .iload 2, .lookupswitch 41 #[(0, 10), (1, 18), (2, 26), (3, 34)], .aload 0, .aload 0, .getfield 716, .getfield 135, .iload 1, .iaload, .invokevirtual 178, .ireturn, .aload 0, .aload 0, .getfield 716, .getfield 136, .iload 1, .iaload, .invokevirtual 178, .ireturn, .aload 0, .aload 0, .getfield 716, .getfield 137, .iload 1, .iaload, .invokevirtual 178, .ireturn, .aload 0, .aload 0, .getfield 716, .iload 1, .invokevirtual 24, .invokevirtual 178, .ireturn, .aload 0, .iconst 1, .invokevirtual 179, .ireturn]
/- BeastCave.measure(II)I -/
def bc_c134 : List Instr := [.aload 0, .iload 1, .invokevirtual 186, .ifCond .eq 8, .aload 0, .iload 2, .invokevirtual 184, .ifCond .ne 12, .aload 0, .iconst 1, .invokevirtual 179, .ireturn, .aload 0, .aload 0, .getfield 716, .getfield 138, .iload 1, .iconst 5, .imul, .iload 2, .iadd, .iaload, .invokevirtual 178, .ireturn]
/- BeastCave.who(I)I -/
def bc_c135 : List Instr := [.aload 0, .iload 1, .invokevirtual 186, .ifCond .ne 8, .aload 0, .iconst 1, .invokevirtual 179, .ireturn, .aload 0, .getfield 716, .iload 1, .invokevirtual 25, .ifCond .ne 17, .aload 0, .iconst 6, .invokevirtual 179, .ireturn, .aload 0, .aload 0, .getfield 716, .getfield 138, .iload 1, .iconst 5, .imul, .invokestatic 22, .invokevirtual 178, .ireturn]
/- BeastCave.figure(II)I -/
def bc_c136 : List Instr := [.aload 0, .iload 1, .invokevirtual 187, .ifCond .ne 8, .aload 0, .iconst 1, .invokevirtual 179, .ireturn, .iload 2, .lookupswitch 46 #[(0, 10), (1, 19), (2, 28), (3, 37)], .aload 0, .aload 0, .getfield 716, .getfield 134, .getfield 257, .iload 1, .iaload, .invokevirtual 178, .ireturn, .aload 0, .aload 0, .getfield 716, .getfield 134, .getfield 258, .iload 1, .iaload, .invokevirtual 178, .ireturn, .aload 0, .aload 0, .getfield 716, .getfield 134, .getfield 259, .iload 1, .iaload, .invokevirtual 178, .ireturn, .aload 0, .aload 0, .getfield 716, .getfield 134, .getfield 260, .iload 1, .iaload, .invokevirtual 178, .ireturn, .aload 0, .iconst 1, .invokevirtual 179, .ireturn]
/- BeastCave.weight(II)I -/
def bc_c137 : List Instr := [.aload 0, .iload 1, .invokevirtual 184, .ifCond .eq 8, .aload 0, .iload 2, .invokevirtual 184, .ifCond .ne 12, .aload 0, .iconst 1, .invokevirtual 179, .ireturn, .aload 0, .aload 0, .getfield 716, .getfield 132, .getfield 65, .iload 1, .iconst 5, .imul, .iload 2, .iadd, .iaload, .invokevirtual 178, .ireturn]
/- BeastCave.minute(I)I -/
def bc_c138 : List Instr := [.iload 1, .iconst 1, .iconst 240, .invokestatic 182, .ifCond .ne 9, .aload 0, .iconst 1, .invokevirtual 179, .ireturn, .aload 0, .getfield 716, .getfield 130, .iconst 9999, .iload 1, .isub, .if_icmp .le 20, .aload 0, .iconst 4, .invokevirtual 179, .ireturn, .iconst 0, .istore 2, .iload 2, .iload 1, .if_icmp .ge 31, .aload 0, .getfield 716, .invokevirtual 28, .pop, .iinc 2 (1), .goto 22, .aload 0, .aload 0, .getfield 716, .invokevirtual 26, .invokestatic 356, .invokevirtual 178, .ireturn]
/- BeastCave.lead(II)I -/
def bc_c139 : List Instr := [.aload 0, .iload 1, .invokevirtual 186, .ifCond .eq 8, .aload 0, .iload 2, .invokevirtual 185, .ifCond .ne 12, .aload 0, .iconst 1, .invokevirtual 179, .ireturn, .aload 0, .getfield 716, .iload 1, .iload 2, .invokevirtual 29, .ifCond .ne 22, .aload 0, .iconst 7, .invokevirtual 179, .ireturn, .aload 0, .aload 0, .getfield 716, .getfield 137, .iload 1, .iaload, .invokevirtual 178, .ireturn]
/- BeastCave.wake(I)I -/
def bc_c140 : List Instr := [.aload 0, .iload 1, .invokevirtual 186, .ifCond .ne 8, .aload 0, .iconst 1, .invokevirtual 179, .ireturn, .aload 0, .getfield 716, .iload 1, .invokevirtual 30, .ifCond .ne 17, .aload 0, .iconst 7, .invokevirtual 179, .ireturn, .aload 0, .aload 0, .getfield 716, .iload 1, .invokevirtual 24, .invokevirtual 178, .ireturn]
/- BeastCave.fill(I)I -/
def bc_c141 : List Instr := [.iload 1, .iconst 1, .iconst 99, .invokestatic 182, .ifCond .ne 9, .aload 0, .iconst 1, .invokevirtual 179, .ireturn, .aload 0, .getfield 716, .iload 1, .invokevirtual 31, .ifCond .ne 18, .aload 0, .iconst 4, .invokevirtual 179, .ireturn, .aload 0, .aload 0, .getfield 716, .getfield 128, .invokevirtual 178, .ireturn]
/- BeastCave.paint(III)Z -/
def bc_c142 : List Instr := [.aload 0, .iload 1, .invokevirtual 185, .ifCond .eq 13, .aload 0, .iload 2, .invokevirtual 184, .ifCond .eq 13, .iload 3, .iconst 1, .iconst 9, .invokestatic 182, .ifCond .ne 17, .aload 0, .iconst 1, .invokevirtual 181, .ireturn, .aload 0, .getfield 716, .getfield 133, .getfield 642, .iload 1, .iload 2, .iastore, .aload 0, .getfield 716, .getfield 133, .getfield 643, .iload 1, .iload 3, .iastore, .aload 0, .invokevirtual 180, .ireturn]
/- BeastCave.scrub(I)I -/
def bc_c143 : List Instr := [.aload 0, .iload 1, .invokevirtual 185, .ifCond .ne 8, .aload 0, .iconst 1, .invokevirtual 179, .ireturn, .aload 0, .getfield 716, .getfield 133, .getfield 642, .iload 1, .iaload, .istore 2, .iload 2, .iconst (-1), .if_icmp .ne 22, .aload 0, .iconst 7, .invokevirtual 179, .ireturn, .aload 0, .getfield 716, .getfield 133, .getfield 642, .iload 1, .iconst (-1), .iastore, .aload 0, .getfield 716, .getfield 133, .getfield 643, .iload 1, .iconst 0, .iastore, .aload 0, .iload 2, .invokevirtual 178, .ireturn]
/- BeastCave.come(II)I -/
def bc_c144 : List Instr := [.iload 1, .iconst 1, .iconst 60, .invokestatic 182, .ifCond .eq 9, .aload 0, .iload 2, .invokevirtual 185, .ifCond .ne 13, .aload 0, .iconst 1, .invokevirtual 179, .ireturn, .aload 0, .getfield 716, .getfield 131, .iconst 6, .if_icmp .lt 22, .aload 0, .iconst 4, .invokevirtual 179, .ireturn, .aload 0, .getfield 716, .iload 1, .iload 2, .invokevirtual 23, .aload 0, .aload 0, .getfield 716, .getfield 131, .iconst 1, .isub, .invokevirtual 178, .ireturn]
/- BeastCave.draw(III)I -/
def bc_c145 : List Instr := [.aload 0, .iload 1, .invokevirtual 184, .ifCond .eq 14, .iload 2, .iconst 0, .iconst 9, .invokestatic 182, .ifCond .eq 14, .iload 3, .iconst 0, .iconst 9, .invokestatic 182, .ifCond .ne 18, .aload 0, .iconst 1, .invokevirtual 179, .ireturn, .aload 0, .getfield 716, .getfield 134, .getfield 256, .iconst 8, .if_icmp .lt 28, .aload 0, .iconst 4, .invokevirtual 179, .ireturn, .aload 0, .getfield 716, .getfield 134, .iload 1, .iload 2, .iload 3, .invokevirtual 40, .aload 0, .aload 0, .getfield 716, .getfield 134, .getfield 256, .iconst 1, .isub, .invokevirtual 178, .ireturn]
/- BeastCave.cover(II)Z -/
def bc_c146 : List Instr := [.aload 0, .iload 1, .invokevirtual 187, .ifCond .eq 11, .aload 0, .iload 2, .invokevirtual 187, .ifCond .eq 11, .iload 1, .iload 2, .if_icmp .ne 15, .aload 0, .iconst 1, .invokevirtual 181, .ireturn, .aload 0, .getfield 716, .getfield 134, .getfield 260, .iload 1, .iaload, .iload 2, .invokestatic 183, .ifCond .eq 28, .aload 0, .iconst 7, .invokevirtual 181, .ireturn, .aload 0, .getfield 716, .getfield 134, .getfield 260, .iload 1, .dup2, .iaload, .iconst 1, .iload 2, .ishl, .ior, .iastore, .aload 0, .invokevirtual 180, .ireturn]
/- BeastCave.rule(I)Z -/
def bc_c147 : List Instr := [.iload 1, .iconst 0, .iconst 16, .invokestatic 182, .ifCond .ne 9, .aload 0, .iconst 1, .invokevirtual 181, .ireturn, .aload 0, .getfield 716, .iload 1, .putfield 129, .aload 0, .invokevirtual 180, .ireturn]
/- BeastCave.measureIn(III)I -/
def bc_c148 : List Instr := [.aload 0, .iload 1, .invokevirtual 186, .ifCond .eq 13, .aload 0, .iload 2, .invokevirtual 184, .ifCond .eq 13, .iload 3, .iconst 0, .iconst 200, .invokestatic 182, .ifCond .ne 17, .aload 0, .iconst 1, .invokevirtual 179, .ireturn, .aload 0, .getfield 713, .aload 0, .getfield 716, .iload 1, .iload 3, .invokevirtual 2, .aload 0, .aload 0, .getfield 713, .getfield 0, .iload 2, .iaload, .invokevirtual 178, .ireturn]
/- BeastCave.whoIn(II)I -/
def bc_c149 : List Instr := [.aload 0, .iload 1, .invokevirtual 186, .ifCond .eq 9, .iload 2, .iconst 0, .iconst 200, .invokestatic 182, .ifCond .ne 13, .aload 0, .iconst 1, .invokevirtual 179, .ireturn, .aload 0, .getfield 713, .aload 0, .getfield 716, .iload 1, .iload 2, .invokevirtual 2, .aload 0, .getfield 713, .getfield 1, .iload 2, .iaload, .aload 0, .getfield 716, .getfield 135, .iload 1, .iaload, .if_icmp .gt 35, .aload 0, .iconst 6, .invokevirtual 179, .ireturn, .aload 0, .aload 0, .getfield 713, .getfield 2, .iload 2, .iaload, .invokevirtual 178, .ireturn]
/- BeastCave.turnIn(I)I -/
def bc_c150 : List Instr := [.aload 0, .iload 1, .invokevirtual 186, .ifCond .ne 8, .aload 0, .iconst 1, .invokevirtual 179, .ireturn, .aload 0, .getfield 713, .aload 0, .getfield 716, .iload 1, .iconst 200, .invokevirtual 2, .iconst 0, .istore 2, .iload 2, .iconst 200, .if_icmp .gt 37, .aload 0, .getfield 713, .getfield 1, .iload 2, .iaload, .aload 0, .getfield 716, .getfield 135, .iload 1, .iaload, .if_icmp .le 35, .aload 0, .iload 2, .invokevirtual 178, .ireturn, .iinc 2 (1), .goto 17, .aload 0, .iconst 6, .invokevirtual 179, .ireturn]
/- BeastCave.freeIn()I -/
def bc_c151 : List Instr := [.aload 0, .getfield 717, .aload 0, .getfield 716, .invokevirtual 15, .iconst 0, .istore 1, .iload 1, .iconst 200, .if_icmp .gt 24, .aload 0, .getfield 717, .invokevirtual 26, .ifCond .ne 18, .aload 0, .iload 1, .invokevirtual 178, .ireturn, .aload 0, .getfield 717, .invokevirtual 28, .pop, .iinc 1 (1), .goto 7, .aload 0, .iconst 6, .invokevirtual 179, .ireturn]
/- BeastCave.safe(II)I -/
def bc_c152 : List Instr := [.aload 0, .iload 1, .invokevirtual 186, .ifCond .eq 8, .aload 0, .iload 2, .invokevirtual 185, .ifCond .ne 12, .aload 0, .iconst 1, .invokevirtual 179, .ireturn, .aload 0, .getfield 716, .getfield 133, .getfield 642, .iload 2, .iaload, .iconst (-1), .if_icmp .ne 24, .aload 0, .iconst 6, .invokevirtual 179, .ireturn, .aload 0, .aload 0, .getfield 713, .aload 0, .getfield 716, .iload 1, .iload 2, .invokevirtual 3, .invokevirtual 178, .ireturn]
/- BeastCave.far(II)I -/
def bc_c153 : List Instr := [.aload 0, .iload 1, .invokevirtual 185, .ifCond .eq 8, .aload 0, .iload 2, .invokevirtual 185, .ifCond .ne 12, .aload 0, .iconst 1, .invokevirtual 179, .ireturn, .aload 0, .getfield 716, .getfield 133, .getfield 645, .iload 1, .iconst 7, .imul, .iload 2, .iadd, .iaload, .istore 3, .iload 3, .iconst (-1), .if_icmp .ne 30, .aload 0, .iconst 6, .invokevirtual 179, .goto 33, .aload 0, .iload 3, .invokevirtual 178, .ireturn]
/- BeastCave.near(I)I -/
def bc_c154 : List Instr := [.aload 0, .iload 1, .invokevirtual 185, .ifCond .ne 8, .aload 0, .iconst 1, .invokevirtual 179, .ireturn, .aload 0, .aload 0, .getfield 716, .getfield 133, .iload 1, .invokevirtual 116, .invokevirtual 178, .ireturn]
/- BeastCave.tour(III)I -/
def bc_c155 : List Instr := [.aload 0, .iload 1, .iload 2, .iload 3, .invokevirtual 189, .istore 4, .iload 4, .ifCond .eq 12, .aload 0, .iload 4, .invokevirtual 179, .goto 17, .aload 0, .aload 0, .getfield 714, .getfield 448, .invokevirtual 178, .ireturn]
/- BeastCave.tourAt(IIII)I -/
def bc_c156 : List Instr := [.iload 4, .ifCond .ge 4, .iconst 1, .goto 9, .aload 0, .iload 1, .iload 2, .iload 3, .invokevirtual 189, .istore 5, .iload 5, .ifCond .eq 16, .aload 0, .iload 5, .invokevirtual 179, .ireturn, .iload 4, .iload 2, .invokestatic 356, .if_icmp .ge 26, .iload 4, .aload 0, .getfield 714, .getfield 449, .arraylength, .if_icmp .lt 30, .aload 0, .iconst 6, .invokevirtual 179, .ireturn, .aload 0, .aload 0, .getfield 714, .getfield 449, .iload 4, .iaload, .invokevirtual 178, .ireturn]
/- BeastCave.layers()I -/
def bc_c157 : List Instr := [.aload 0, .aload 0, .getfield 716, .getfield 134, .aload 0, .getfield 715, .invokevirtual 41, .invokevirtual 178, .ireturn]
/- BeastCave.layerAt(I)I -/
def bc_c158 : List Instr := [.iload 1, .ifCond .ge 6, .aload 0, .iconst 1, .invokevirtual 179, .ireturn, .iload 1, .aload 0, .getfield 716, .getfield 134, .getfield 256, .if_icmp .ge 18, .aload 0, .getfield 716, .getfield 134, .iload 1, .invokevirtual 42, .goto 19, .iconst (-1), .istore 2, .iload 2, .iconst (-1), .if_icmp .ne 27, .aload 0, .iconst 6, .invokevirtual 179, .goto 30, .aload 0, .iload 2, .invokevirtual 178, .ireturn]
/- BeastCave.low(I)I -/
def bc_c159 : List Instr := [.aload 0, .iload 1, .invokevirtual 187, .ifCond .ne 8, .aload 0, .iconst 1, .invokevirtual 179, .ireturn, .aload 0, .getfield 716, .getfield 134, .iconst 0, .invokevirtual 42, .iconst (-1), .if_icmp .ne 19, .aload 0, .iconst 6, .invokevirtual 179, .ireturn, .aload 0, .aload 0, .getfield 716, .getfield 134, .iload 1, .invokevirtual 43, .invokestatic 356, .invokevirtual 178, .ireturn]
/- BeastCave.hands(I)I -/
def bc_c160 : List Instr := [.iload 1, .iconst 0, .iconst 18, .invokestatic 182, .ifCond .ne 9, .aload 0, .iconst 1, .invokevirtual 179, .ireturn, .aload 0, .aload 0, .getfield 716, .getfield 134, .iload 1, .aload 0, .getfield 715, .invokevirtual 46, .invokevirtual 178, .ireturn]
/- BeastCave.hand(I)I -/
def bc_c161 : List Instr := [.iload 1, .iconst 0, .iconst 18, .invokestatic 182, .ifCond .ne 9, .aload 0, .iconst 1, .invokevirtual 179, .ireturn, .aload 0, .aload 0, .getfield 716, .getfield 134, .iload 1, .aload 0, .getfield 715, .invokevirtual 47, .invokevirtual 178, .ireturn]
/- BeastCave.rows(I)J -/
def bc_c162 : List Instr := [.iload 1, .iconst 1, .iconst 12, .invokestatic 182, .ifCond .ne 10, .aload 0, .iconst 1, .invokevirtual 179, .i2l, .lreturn, .aload 0, .getfield 716, .getfield 132, .iload 1, .aload 0, .getfield 715, .invokevirtual 10, .iconst 0, .istore 2, .iconst 0, .istore 3, .iload 3, .aload 0, .getfield 716, .getfield 132, .getfield 64, .if_icmp .ge 36, .iload 2, .aload 0, .getfield 715, .iload 3, .iaload, .iadd, .istore 2, .iinc 3 (1), .goto 21, .aload 0, .iload 2, .invokevirtual 178, .i2l, .lreturn]
/- BeastCave.rowsTo(II)J -/
def bc_c163 : List Instr := [.iload 1, .iconst 1, .iconst 12, .invokestatic 182, .ifCond .eq 9, .aload 0, .iload 2, .invokevirtual 184, .ifCond .ne 14, .aload 0, .iconst 1, .invokevirtual 179, .i2l, .lreturn, .aload 0, .getfield 716, .getfield 132, .iload 1, .aload 0, .getfield 715, .invokevirtual 10, .aload 0, .aload 0, .getfield 715, .iload 2, .iaload, .invokevirtual 178, .i2l, .lreturn]
/- BeastCave.likeliest(I)I -/
def bc_c164 : List Instr := [.iload 1, .iconst 1, .iconst 8, .invokestatic 182, .ifCond .ne 9, .aload 0, .iconst 1, .invokevirtual 179, .ireturn, .aload 0, .getfield 716, .getfield 132, .iload 1, .aload 0, .getfield 715, .invokevirtual 11, .istore 2, .iload 2, .ifCond .ne 23, .aload 0, .iconst 6, .invokevirtual 179, .goto 26, .aload 0, .iload 2, .invokevirtual 178, .ireturn]
/- BeastCave.likeliestAt(II)I -/
def bc_c165 : List Instr := [.iload 1, .iconst 1, .iconst 8, .invokestatic 182, .ifCond .eq 7, .iload 2, .ifCond .ge 11, .aload 0, .iconst 1, .invokevirtual 179, .ireturn, .iload 2, .iload 1, .if_icmp .ge 22, .aload 0, .getfield 716, .getfield 132, .iload 1, .aload 0, .getfield 715, .invokevirtual 11, .ifCond .ne 26, .aload 0, .iconst 6, .invokevirtual 179, .ireturn, .aload 0, .aload 0, .getfield 716, .getfield 132, .iload 1, .iload 2, .aload 0, .getfield 715, .invokevirtual 12, .invokevirtual 178, .ireturn]
/- BeastCave.fits(III)I -/
def bc_c166 : List Instr := [.aload 0, .iload 1, .iload 2, .iload 3, .invokevirtual 190, .istore 4, .iload 4, .ifCond .eq 12, .aload 0, .iload 4, .invokevirtual 179, .ireturn, .aload 0, .aload 0, .getfield 713, .aload 0, .getfield 716, .iload 1, .aload 0, .getfield 709, .iload 2, .iload 3, .invokevirtual 5, .invokestatic 357, .invokevirtual 178, .ireturn]
/- BeastCave.fitsAt(IIII)I -/
def bc_c167 : List Instr := [.iload 4, .iconst 0, .iconst 1, .invokestatic 182, .ifCond .eq 11, .aload 0, .iload 1, .iload 2, .iload 3, .invokevirtual 190, .goto 12, .iconst 1, .istore 5, .iload 5, .ifCond .eq 19, .aload 0, .iload 5, .invokevirtual 179, .ireturn, .aload 0, .getfield 713, .aload 0, .getfield 716, .iload 1, .aload 0, .getfield 709, .iload 2, .iload 3, .invokevirtual 5, .lstore 6, .iconst 1, .istore 8, .iload 8, .iconst 60, .if_icmp .gt 57, .iload 4, .ifCond .ne 39, .iload 8, .goto 42, .iconst 61, .iload 8, .isub, .istore 9, .lload 6, .iload 9, .lshr, .sipush 1, .land, .sipush 0, .lcmp, .ifCond .eq 55, .aload 0, .iload 9, .invokevirtual 178, .ireturn, .iinc 8 (1), .goto 32, .aload 0, .iconst 6, .invokevirtual 179, .ireturn]
/- BeastCave.ask(III)I -/
def bc_c168 : List Instr := [.aload 0, .iload 1, .iload 2, .iload 3, .invokevirtual 190, .istore 4, .iload 4, .ifCond .eq 12, .aload 0, .iload 4, .invokevirtual 179, .ireturn, .aload 0, .getfield 713, .aload 0, .getfield 716, .iload 1, .aload 0, .getfield 709, .iload 2, .iload 3, .invokevirtual 5, .lstore 5, .lload 5, .invokestatic 357, .iconst 2, .if_icmp .ge 31, .aload 0, .iconst 6, .invokevirtual 179, .ireturn, .aload 0, .aload 0, .getfield 713, .lload 5, .invokevirtual 6, .invokevirtual 178, .ireturn]
/- BeastCave.game(II)I -/
def bc_c169 : List Instr := [.aload 0, .iload 1, .invokevirtual 186, .ifCond .eq 9, .iload 2, .iconst 0, .iconst 4, .invokestatic 182, .ifCond .ne 13, .aload 0, .iconst 1, .invokevirtual 179, .ireturn, .aload 0, .aload 0, .getfield 714, .aload 0, .getfield 716, .iload 1, .iload 2, .invokevirtual 82, .invokevirtual 178, .ireturn]
/- BeastCave.moveOf(II)I -/
def bc_c170 : List Instr := [.aload 0, .iload 1, .invokevirtual 186, .ifCond .eq 9, .iload 2, .iconst 1, .iconst 4, .invokestatic 182, .ifCond .ne 13, .aload 0, .iconst 1, .invokevirtual 179, .ireturn, .aload 0, .getfield 714, .aload 0, .getfield 716, .iload 1, .iload 2, .invokevirtual 82, .pop, .aload 0, .getfield 714, .getfield 450, .iconst (-1), .if_icmp .ne 30, .aload 0, .iconst 6, .invokevirtual 179, .goto 35, .aload 0, .aload 0, .getfield 714, .getfield 450, .invokevirtual 178, .ireturn]
/- BeastCave.flicker(II)Z -/
def bc_c171 : List Instr := [.iload 1, .iconst 0, .iconst 12, .invokestatic 182, .ifCond .eq 10, .iload 2, .iconst 0, .iconst 12, .invokestatic 182, .ifCond .ne 14, .aload 0, .iconst 1, .invokevirtual 181, .ireturn, .sipush 0, .lstore 3, .iload 2, .istore 5, .iload 5, .iload 1, .if_icmp .gt 45, .lload 3, .iload 1, .iload 5, .invokestatic 193, .aload 0, .getfield 716, .getfield 129, .iload 5, .invokestatic 192, .lmul, .iconst 16, .aload 0, .getfield 716, .getfield 129, .isub, .iload 1, .iload 5, .isub, .invokestatic 192, .lmul, .ladd, .lstore 3, .iinc 5 (1), .goto 18, .aload 0, .lload 3, .iconst 16, .iload 1, .invokestatic 192, .invokevirtual 191, .aload 0, .invokevirtual 180, .ireturn]
/- BeastCave.copyMost(I)I -/
def bc_c172 : List Instr := [.iload 1, .invokestatic 101, .ifCond .ne 7, .aload 0, .iconst 1, .invokevirtual 179, .ireturn, .aload 0, .getfield 709, .iload 1, .invokevirtual 102, .ifCond .eq 16, .aload 0, .iconst 2, .invokevirtual 179, .ireturn, .aload 0, .getfield 709, .iload 1, .iconst 0, .aload 0, .getfield 716, .getfield 131, .invokevirtual 104, .ifCond .ne 29, .aload 0, .iconst 3, .invokevirtual 179, .ireturn, .iconst 0, .istore 2, .iload 2, .aload 0, .getfield 716, .getfield 131, .if_icmp .ge 48, .aload 0, .getfield 709, .iload 1, .iload 2, .aload 0, .getfield 716, .iload 2, .invokevirtual 24, .i2l, .invokevirtual 107, .iinc 2 (1), .goto 31, .aload 0, .aload 0, .getfield 716, .getfield 131, .invokevirtual 178, .ireturn]
/- BeastCave.live(I)I -/
def bc_c173 : List Instr := [.iload 1, .iconst 0, .iconst 9999, .invokestatic 182, .ifCond .ne 9, .aload 0, .iconst 1, .invokevirtual 179, .ireturn, .aload 0, .getfield 718, .getfield 192, .ifCond .ne 17, .aload 0, .iconst 6, .invokevirtual 179, .ireturn, .aload 0, .getfield 712, .aload 0, .getfield 716, .aload 0, .getfield 718, .iload 1, .invokevirtual 49, .aload 0, .iconst 1, .putfield 707, .aload 0, .getfield 708, .iconst 0, .aload 0, .getfield 712, .getfield 321, .iastore, .aload 0, .getfield 708, .iconst 1, .aload 0, .getfield 712, .getfield 322, .iastore, .aload 0, .getfield 708, .iconst 2, .aload 0, .getfield 712, .getfield 323, .iastore, .aload 0, .getfield 708, .iconst 3, .aload 0, .getfield 712, .getfield 324, .iastore, .aload 0, .getfield 708, .iconst 4, .aload 0, .getfield 712, .getfield 325, .iastore, .aload 0, .aload 0, .getfield 712, .getfield 320, .invokevirtual 178, .ireturn]
/- BeastCave.lived(I)I -/
def bc_c174 : List Instr := [.iload 1, .iconst 0, .aload 0, .getfield 708, .arraylength, .iconst 1, .isub, .invokestatic 182, .ifCond .ne 13, .aload 0, .iconst 1, .invokevirtual 179, .ireturn, .aload 0, .getfield 707, .ifCond .eq 23, .aload 0, .aload 0, .getfield 708, .iload 1, .iaload, .invokevirtual 178, .goto 26, .aload 0, .iconst 6, .invokevirtual 179, .ireturn]
/- BeastCave.mean(II)Z -/
def bc_c175 : List Instr := [.iload 1, .iconst 0, .iconst 9999, .invokestatic 182, .ifCond .eq 15, .iload 2, .iconst 1, .iconst 20, .invokestatic 182, .ifCond .eq 15, .iload 1, .iconst 10000, .iload 2, .isub, .if_icmp .le 19, .aload 0, .iconst 1, .invokevirtual 181, .ireturn, .aload 0, .getfield 718, .getfield 192, .ifCond .ne 27, .aload 0, .iconst 6, .invokevirtual 181, .ireturn, .iconst 0, .istore 3, .iconst 0, .istore 4, .iload 4, .iload 2, .if_icmp .ge 58, .aload 0, .getfield 717, .aload 0, .getfield 716, .invokevirtual 15, .aload 0, .getfield 712, .aload 0, .getfield 717, .aload 0, .getfield 718, .iload 1, .iload 4, .iadd, .invokevirtual 49, .iload 3, .aload 0, .getfield 717, .invokevirtual 26, .invokestatic 356, .iadd, .istore 3, .iinc 4 (1), .goto 31, .aload 0, .iload 3, .i2l, .iload 2, .i2l, .invokevirtual 191, .aload 0, .invokevirtual 180, .ireturn]
/- BeastCave.mark()I -/
def bc_c176 : List Instr := [.aload 0, .getfield 720, .iconst 3, .if_icmp .lt 8, .aload 0, .iconst 4, .invokevirtual 179, .ireturn, .aload 0, .getfield 721, .aload 0, .getfield 720, .aaload, .aload 0, .getfield 716, .invokevirtual 15, .aload 0, .getfield 722, .aload 0, .getfield 720, .aaload, .aload 0, .getfield 718, .invokevirtual 34, .aload 0, .dup, .getfield 720, .iconst 1, .iadd, .putfield 720, .aload 0, .aload 0, .getfield 720, .invokevirtual 178, .ireturn]
/- BeastCave.undo()I -/
def bc_c177 : List Instr := [.aload 0, .getfield 720, .ifCond .gt 7, .aload 0, .iconst 6, .invokevirtual 179, .ireturn, .aload 0, .dup, .getfield 720, .iconst 1, .isub, .putfield 720, .aload 0, .getfield 716, .aload 0, .getfield 721, .aload 0, .getfield 720, .aaload, .invokevirtual 15, .aload 0, .getfield 718, .aload 0, .getfield 722, .aload 0, .getfield 720, .aaload, .invokevirtual 34, .aload 0, .aload 0, .getfield 720, .invokevirtual 178, .ireturn]
/- BeastCave.answer(I)I -/
def bc_c178 : List Instr := [.aload 0, .iconst 0, .putfield 704, .iload 1, .ireturn]
/- BeastCave.refuse(I)I -/
def bc_c179 : List Instr := [.aload 0, .iload 1, .putfield 704, .iconst (-1), .ireturn]
/- BeastCave.grant()Z -/
def bc_c180 : List Instr := [.aload 0, .iconst 0, .putfield 704, .iconst 1, .ireturn]
/- BeastCave.deny(I)Z -/
def bc_c181 : List Instr := [.aload 0, .iload 1, .putfield 704, .iconst 0, .ireturn]
/- BeastCave.within(III)Z -/
def bc_c182 : List Instr := [.iload 0, .iload 1, .if_icmp .lt 8, .iload 0, .iload 2, .if_icmp .gt 8, .iconst 1, .goto 9, .iconst 0, .ireturn]
/- BeastCave.has(II)Z -/
def bc_c183 : List Instr := [.iload 0, .iload 1, .ishr, .iconst 1, .iand, .ifCond .eq 8, .iconst 1, .goto 9, .iconst 0, .ireturn]
/- BeastCave.isBeast(I)Z -/
def bc_c184 : List Instr := [.iload 1, .iconst 0, .aload 0, .getfield 716, .getfield 132, .getfield 64, .iconst 1, .isub, .invokestatic 182, .ireturn]
/- BeastCave.isWall(I)Z -/
def bc_c185 : List Instr := [.iload 1, .iconst 0, .aload 0, .getfield 716, .getfield 133, .getfield 640, .iconst 1, .isub, .invokestatic 182, .ireturn]
/- BeastCave.isVisitor(I)Z -/
def bc_c186 : List Instr := [.iload 1, .iconst 0, .aload 0, .getfield 716, .getfield 131, .iconst 1, .isub, .invokestatic 182, .ireturn]
/- BeastCave.isFigure(I)Z -/
def bc_c187 : List Instr := [.iload 1, .iconst 0, .aload 0, .getfield 716, .getfield 134, .getfield 256, .iconst 1, .isub, .invokestatic 182, .ireturn]
/- BeastCave.statusOfPlace(II)I -/
def bc_c188 : List Instr := [.iload 1, .invokestatic 101, .ifCond .ne 5, .iconst 1, .ireturn, .aload 0, .getfield 709, .iload 1, .invokevirtual 102, .ifCond .eq 12, .iconst 2, .ireturn, .iload 2, .ifCond .lt 23, .aload 0, .getfield 709, .iload 1, .iload 2, .iconst 1, .invokevirtual 104, .ifCond .eq 23, .iconst 0, .goto 24, .iconst 3, .ireturn]
/- BeastCave.statusOfTour(III)I -/
def bc_c189 : List Instr := [.aload 0, .iload 1, .invokevirtual 186, .ifCond .eq 25, .iload 3, .iconst 1, .iconst 9, .invokestatic 182, .ifCond .eq 25, .iload 2, .iconst 0, .iconst 1, .aload 0, .getfield 716, .getfield 133, .getfield 640, .ishl, .iconst 1, .isub, .invokestatic 182, .ifCond .eq 25, .iload 2, .invokestatic 356, .iconst 5, .if_icmp .le 27, .iconst 1, .ireturn, .aload 0, .getfield 716, .iload 1, .invokevirtual 25, .ifCond .ne 38, .aload 0, .getfield 716, .getfield 137, .iload 1, .iaload, .ifCond .le 40, .iconst 7, .ireturn, .aload 0, .getfield 714, .aload 0, .getfield 716, .iload 1, .iload 2, .iload 3, .invokevirtual 79, .ifCond .eq 51, .iconst 0, .goto 52, .iconst 6, .ireturn]
/- BeastCave.statusOfSeen(III)I -/
def bc_c190 : List Instr := [.aload 0, .iload 1, .invokevirtual 186, .ifCond .eq 12, .iload 2, .invokestatic 101, .ifCond .eq 12, .iload 3, .iconst 0, .iconst 20, .invokestatic 182, .ifCond .ne 14, .iconst 1, .ireturn, .aload 0, .getfield 709, .iload 2, .invokevirtual 102, .ifCond .eq 21, .iconst 2, .ireturn, .aload 0, .getfield 709, .iload 2, .iconst 0, .iconst 2, .iload 3, .imul, .invokevirtual 104, .ifCond .ne 32, .iconst 3, .ireturn, .iconst 0, .istore 4, .iload 4, .iload 3, .if_icmp .ge 79, .aload 0, .getfield 709, .iload 2, .iconst 2, .iload 4, .imul, .invokevirtual 106, .lstore 5, .aload 0, .getfield 709, .iload 2, .iconst 2, .iload 4, .imul, .iconst 1, .iadd, .invokevirtual 106, .lstore 7, .lload 5, .sipush 0, .lcmp, .ifCond .lt 75, .lload 5, .sipush 200, .lcmp, .ifCond .gt 75, .lload 7, .sipush 0, .lcmp, .ifCond .lt 75, .lload 7, .aload 0, .getfield 716, .getfield 132, .getfield 64, .i2l, .lcmp, .ifCond .le 77, .iconst 5, .ireturn, .iinc 4 (1), .goto 34, .iconst 0, .ireturn]
/- BeastCave.tellFraction(JJ)V -/
def bc_c191 : List Instr := [.lload 3, .lstore 5, .lload 1, .lstore 7, .iconst 0, .istore 9, .iload 9, .iconst 200, .if_icmp .ge 23, .lload 7, .sipush 0, .lcmp, .ifCond .eq 23, .lload 5, .lload 7, .lrem, .lstore 10, .lload 7, .lstore 5, .lload 10, .lstore 7, .iinc 9 (1), .goto 6, .lload 5, .sipush 0, .lcmp, .ifCond .eq 37, .aload 0, .lload 1, .lload 5, .ldiv, .putfield 705, .aload 0, .lload 3, .lload 5, .ldiv, .putfield 706, .return_]
/- BeastCave.power(II)J -/
def bc_c192 : List Instr := [.sipush 1, .lstore 2, .iconst 0, .istore 4, .iload 4, .iload 1, .if_icmp .ge 14, .lload 2, .iload 0, .i2l, .lmul, .lstore 2, .iinc 4 (1), .goto 4, .lload 2, .lreturn]
/- BeastCave.choices(II)J -/
def bc_c193 : List Instr := [.sipush 1, .lstore 2, .iconst 0, .istore 4, .iload 4, .iload 1, .if_icmp .ge 21, .lload 2, .iload 0, .iload 4, .isub, .i2l, .lmul, .iload 4, .iconst 1, .iadd, .i2l, .ldiv, .lstore 2, .iinc 4 (1), .goto 4, .lload 2, .lreturn]
/- BeastCaveModel.<init>()V -/
def bc_c194 : List Instr := [.aload 0, .ret 0, .aload 0, .iconst 3968, .newarray .int, .putfield 768, .aload 0, .iconst 156, .newarray .long, .putfield 769, .aload 0, .sipush 1, .putfield 772, .aload 0, .iconst 4, .newarray .int, .putfield 773, .aload 0, .iconst 4, .newarray .int, .dup, .iconst 0, .iconst (-1), .iastore, .dup, .iconst 1, .iconst (-1), .iastore, .dup, .iconst 2, .iconst (-1), .iastore, .dup, .iconst 3, .iconst (-1), .iastore, .putfield 774, .aload 0, .iconst 240, .newarray .long, .putfield 775, .aload 0, .iconst 900, .newarray .byte, .putfield 776, .aload 0, .iconst 900, .newarray .byte, .putfield 777, .aload 0, .iconst (-1), .putfield 784, .aload 0, .iconst (-1), .putfield 785, .aload 0, .iconst 3, .newarray .int, .putfield 789, .aload 0, .iconst 49, .newarray .int, .putfield 792, .aload 0, .iconst 6, .newarray .int, .putfield 793, .aload 0, .iconst 6, .newarray .int, .putfield 794, .aload 0, .iconst 5, .newarray .int, .putfield 795, .aload 0, .iconst 256, .newarray .int, .putfield 797, .aload 0, .iconst 256, .newarray .int, .putfield 798, .aload 0, .iconst 5, .newarray .long, .putfield 799, .aload 0, .iconst 5, .newarray .long, .putfield 800, .aload 0, .iconst 45, .newarray .int, .putfield 801, .aload 0, .iconst 201, .newarray .int, .putfield 802, .aload 0, .iconst 201, .newarray .int, .putfield 803, .aload 0, .iconst 61, .newarray .boolean, .putfield 804, .aload 0, .iconst 6, .newarray .int, .putfield 806, .aload 0, .iconst 5, .newarray .int, .putfield 807, .aload 0, .iconst 5, .newarray .int, .putfield 808, .aload 0, .iconst 5, .newarray .int, .putfield 809, .aload 0, .iconst 13, .newarray .long, .putfield 810, .aload 0, .iconst 80, .newarray .int, .putfield 813, .aload 0, .iconst 5, .newarray .int, .putfield 814, .aload 0, .iconst 5, .newarray .int, .putfield 815, .aload 0, .iconst 0, .invokevirtual 195, .return_]
/- BeastCaveModel.plain(I)V -/
def bc_c195 : List Instr := [.iconst 0, .istore 2, .iload 2, .iconst 528, .if_icmp .ge 14, .aload 0, .getfield 768, .iload 1, .iload 2, .iadd, .iconst 0, .iastore, .iinc 2 (1), .goto 2, .aload 0, .getfield 768, .iload 1, .iconst 4, .iadd, .iconst 60, .iastore, .aload 0, .getfield 768, .iload 1, .iconst 5, .iadd, .iconst 4, .iastore, .aload 0, .getfield 768, .iload 1, .iconst 8, .iadd, .iconst (-1), .iastore, .return_]
/- BeastCaveModel.status()I -/
def bc_c196 : List Instr := [.aload 0, .getfield 770, .ireturn]
/- BeastCaveModel.top()J -/
def bc_c197 : List Instr := [.aload 0, .getfield 771, .lreturn]
/- BeastCaveModel.bottom()J -/
def bc_c198 : List Instr := [.aload 0, .getfield 772, .lreturn]
/- BeastCaveModel.is(I)Z -/
def bc_c199 : List Instr := [.aload 0, .iload 1, .putfield 770, .iload 1, .ifCond .ne 7, .iconst 1, .goto 8, .iconst 0, .ireturn]
/- BeastCaveModel.refuse(I)I -/
def bc_c200 : List Instr := [.aload 0, .iload 1, .putfield 770, .iconst (-1), .ireturn]
/- BeastCaveModel.gives(I)I -/
def bc_c201 : List Instr := [.aload 0, .iconst 0, .putfield 770, .iload 1, .ireturn]
/- BeastCaveModel.orNone(I)I -/
def bc_c202 : List Instr := [.iload 1, .iconst (-1), .if_icmp .ne 7, .aload 0, .iconst 6, .invokevirtual 200, .goto 10, .aload 0, .iload 1, .invokevirtual 201, .ireturn]
/- BeastCaveModel.tellsBy(JJ)Z -/
def bc_c203 : List Instr := [.lload 1, .lstore 5, .lload 3, .lstore 7, .lload 7, .sipush 0, .lcmp, .ifCond .eq 17, .lload 5, .lload 7, .lrem, .lstore 9, .lload 7, .lstore 5, .lload 9, .lstore 7, .goto 4, .aload 0, .lload 1, .lload 5, .ldiv, .putfield 771, .aload 0, .lload 3, .lload 5, .ldiv, .putfield 772, .aload 0, .iconst 0, .invokevirtual 199, .ireturn]
/- BeastCaveModel.isTray(I)Z -/
def bc_c204 : List Instr := [.iload 0, .ifCond .lt 7, .iload 0, .iconst 4, .if_icmp .ge 7, .iconst 1, .goto 8, .iconst 0, .ireturn]
/- BeastCaveModel.cut(JI)J -/
def bc_c205 : List Instr := [.iload 2, .ifCond .ne 7, .lload 0, .l2i, .i2b, .i2l, .goto 23, .iload 2, .iconst 1, .if_icmp .ne 15, .lload 0, .l2i, .i2s, .i2l, .goto 23, .iload 2, .iconst 2, .if_icmp .ne 22, .lload 0, .l2i, .i2l, .goto 23, .lload 0, .lreturn]
/- BeastCaveModel.tray(III)Z -/
def bc_c206 : List Instr := [.iload 1, .invokestatic 204, .ifCond .eq 13, .iload 2, .ifCond .lt 13, .iload 2, .iconst 3, .if_icmp .gt 13, .iload 3, .ifCond .lt 13, .iload 3, .iconst 60, .if_icmp .le 17, .aload 0, .iconst 1, .invokevirtual 199, .ireturn, .aload 0, .getfield 773, .iload 1, .iload 2, .iastore, .aload 0, .getfield 774, .iload 1, .iload 3, .iastore, .iconst 0, .istore 4, .iload 4, .iload 3, .if_icmp .ge 43, .aload 0, .getfield 775, .iconst 60, .iload 1, .imul, .iload 4, .iadd, .sipush 0, .lastore, .iinc 4 (1), .goto 29, .aload 0, .iconst 0, .invokevirtual 199, .ireturn]
/- BeastCaveModel.wrongPlace(II)I -/
def bc_c207 : List Instr := [.iload 1, .invokestatic 204, .ifCond .ne 5, .iconst 1, .goto 24, .aload 0, .getfield 774, .iload 1, .iaload, .iconst (-1), .if_icmp .ne 13, .iconst 2, .goto 24, .iload 2, .ifCond .lt 21, .iload 2, .aload 0, .getfield 774, .iload 1, .iaload, .if_icmp .lt 23, .iconst 3, .goto 24, .iconst 0, .ireturn]
/- BeastCaveModel.write(IIJ)Z -/
def bc_c208 : List Instr := [.aload 0, .iload 1, .iload 2, .invokevirtual 207, .istore 5, .iload 5, .ifCond .ne 21, .aload 0, .getfield 775, .iconst 60, .iload 1, .imul, .iload 2, .iadd, .lload 3, .aload 0, .getfield 773, .iload 1, .iaload, .invokestatic 205, .lastore, .aload 0, .iload 5, .invokevirtual 199, .ireturn]
/- BeastCaveModel.read(II)J -/
def bc_c209 : List Instr := [.aload 0, .aload 0, .iload 1, .iload 2, .invokevirtual 207, .putfield 770, .aload 0, .getfield 770, .ifCond .le 11, .sipush (-1), .goto 19, .aload 0, .getfield 775, .iconst 60, .iload 1, .imul, .iload 2, .iadd, .laload, .lreturn]
/- BeastCaveModel.pour(IIIII)Z -/
def bc_c210 : List Instr := [.iload 1, .invokestatic 204, .ifCond .eq 12, .iload 3, .invokestatic 204, .ifCond .eq 12, .iload 2, .ifCond .lt 12, .iload 4, .ifCond .lt 12, .iload 5, .ifCond .ge 16, .aload 0, .iconst 1, .invokevirtual 199, .ireturn, .aload 0, .getfield 774, .iload 1, .iaload, .iconst (-1), .if_icmp .eq 28, .aload 0, .getfield 774, .iload 3, .iaload, .iconst (-1), .if_icmp .ne 32, .aload 0, .iconst 2, .invokevirtual 199, .ireturn, .aload 0, .getfield 773, .iload 1, .iaload, .aload 0, .getfield 773, .iload 3, .iaload, .if_icmp .eq 45, .aload 0, .iconst 8, .invokevirtual 199, .ireturn, .iload 5, .aload 0, .getfield 774, .iload 1, .iaload, .iload 2, .isub, .if_icmp .gt 61, .iload 5, .aload 0, .getfield 774, .iload 3, .iaload, .iload 4, .isub, .if_icmp .le 65, .aload 0, .iconst 3, .invokevirtual 199, .ireturn, .iconst 0, .istore 6, .iload 6, .iload 5, .if_icmp .ge 103, .iload 2, .iload 4, .if_icmp .ge 79, .iload 5, .iconst 1, .isub, .iload 6, .isub, .goto 80, .iload 6, .istore 7, .aload 0, .getfield 775, .iconst 60, .iload 3, .imul, .iload 4, .iadd, .iload 7, .iadd, .aload 0, .getfield 775, .iconst 60, .iload 1, .imul, .iload 2, .iadd, .iload 7, .iadd, .laload, .lastore, .iinc 6 (1), .goto 67, .aload 0, .iconst 0, .invokevirtual 199, .ireturn]
/- BeastCaveModel.isFrom(JJJ)Z -/
def bc_c211 : List Instr := [.lload 0, .lload 2, .lcmp, .ifCond .lt 10, .lload 0, .lload 4, .lcmp, .ifCond .gt 10, .iconst 1, .goto 11, .iconst 0, .ireturn]
/- BeastCaveModel.feed(IIIII)I -/
def bc_c212 : List Instr := [.aload 0, .getfield 778, .iconst 20, .iadd, .iconst 900, .if_icmp .le 8, .iconst (-1), .ireturn, .aload 0, .iload 1, .invokevirtual 213, .aload 0, .iload 2, .invokevirtual 213, .aload 0, .iload 3, .invokevirtual 213, .aload 0, .iload 4, .invokevirtual 213, .aload 0, .iload 5, .invokevirtual 213, .aload 0, .getfield 778, .ireturn]
/- BeastCaveModel.four(I)V -/
def bc_c213 : List Instr := [.iconst 24, .istore 2, .iload 2, .ifCond .lt 21, .aload 0, .getfield 776, .aload 0, .getfield 778, .iload 1, .iload 2, .ishr, .i2b, .bastore, .aload 0, .dup, .getfield 778, .iconst 1, .iadd, .putfield 778, .iinc 2 (-8), .goto 2, .return_]
/- BeastCaveModel.byteAt(I)I -/
def bc_c214 : List Instr := [.iload 1, .aload 0, .getfield 779, .if_icmp .ge 11, .aload 0, .getfield 777, .iload 1, .baload, .iconst 255, .iand, .goto 12, .iconst (-1), .ireturn]
/- BeastCaveModel.isSmall(I)Z -/
def bc_c215 : List Instr := [.iload 0, .iconst 97, .if_icmp .lt 8, .iload 0, .iconst 122, .if_icmp .gt 8, .iconst 1, .goto 9, .iconst 0, .ireturn]
/- BeastCaveModel.isDigit(I)Z -/
def bc_c216 : List Instr := [.iload 0, .iconst 48, .if_icmp .lt 8, .iload 0, .iconst 57, .if_icmp .gt 8, .iconst 1, .goto 9, .iconst 0, .ireturn]
/- BeastCaveModel.ahead()V -/
def bc_c217 : List Instr := [.aload 0, .aload 0, .getfield 782, .invokevirtual 214, .iconst 32, .if_icmp .eq 12, .aload 0, .aload 0, .getfield 782, .invokevirtual 214, .iconst 10, .if_icmp .ne 19, .aload 0, .dup, .getfield 782, .iconst 1, .iadd, .putfield 782, .goto 0, .aload 0, .aload 0, .getfield 782, .putfield 781, .aload 0, .aload 0, .getfield 782, .invokevirtual 214, .istore 1, .aload 0, .iload 1, .putfield 783, .iload 1, .iconst (-1), .if_icmp .ne 38, .aload 0, .iconst 0, .putfield 780, .goto 128, .iload 1, .invokestatic 215, .ifCond .eq 58, .aload 0, .aload 0, .getfield 782, .invokevirtual 214, .invokestatic 215, .ifCond .eq 54, .aload 0, .dup, .getfield 782, .iconst 1, .iadd, .putfield 782, .goto 41, .aload 0, .iconst 2, .putfield 780, .goto 128, .iload 1, .invokestatic 216, .ifCond .eq 105, .aload 0, .iconst 0, .putfield 783, .aload 0, .aload 0, .getfield 782, .invokevirtual 214, .invokestatic 216, .ifCond .eq 92, .aload 0, .iconst 100000, .iconst 10, .aload 0, .getfield 783, .imul, .aload 0, .aload 0, .getfield 782, .invokevirtual 214, .iadd, .iconst 48, .isub, .ret 6, .putfield 783, .aload 0, .dup, .getfield 782, .iconst 1, .iadd, .putfield 782, .goto 64, .aload 0, .aload 0, .getfield 782, .aload 0, .getfield 781, .isub, .iconst 4, .if_icmp .le 102, .iconst 1, .goto 103, .iconst 3, .putfield 780, .goto 128, .aload 0, .dup, .getfield 782, .iconst 1, .iadd, .putfield 782, .aload 0, .iload 1, .iconst 59, .if_icmp .eq 124, .iload 1, .iconst 60, .if_icmp .eq 124, .iload 1, .iconst 62, .if_icmp .eq 124, .iload 1, .iconst 61, .if_icmp .ne 126, .iconst 4, .goto 127, .iconst 1, .putfield 780, .return_]
/- BeastCaveModel.isSign(I)Z -/
def bc_c218 : List Instr := [.aload 0, .getfield 780, .iconst 4, .if_icmp .ne 10, .aload 0, .getfield 783, .iload 1, .if_icmp .ne 10, .iconst 1, .goto 11, .iconst 0, .ireturn]
/- BeastCaveModel.inWords(Ljava/lang/String;)I -/
def bc_c219 : List Instr := [.aload 0, .getfield 780, .iconst 2, .if_icmp .eq 6, .iconst (-1), .ireturn, .iconst 0, .istore 2, .iconst 1, .istore 3, .iload 3, .aload 1, .ret 2, .if_icmp .ge 71, .iload 3, .istore 4, .aload 1, .iload 4, .ret 3, .iconst 32, .if_icmp .eq 23, .iinc 4 (1), .goto 16, .iload 4, .iload 3, .isub, .aload 0, .getfield 782, .aload 0, .getfield 781, .isub, .if_icmp .ne 34, .iconst 1, .goto 35, .iconst 0, .istore 5, .iload 3, .istore 6, .iload 6, .iload 4, .if_icmp .ge 61, .iload 5, .ifCond .eq 61, .aload 1, .iload 6, .ret 3, .aload 0, .aload 0, .getfield 781, .iload 6, .iadd, .iload 3, .isub, .invokevirtual 214, .if_icmp .ne 57, .iconst 1, .goto 58, .iconst 0, .istore 5, .iinc 6 (1), .goto 38, .iload 5, .ifCond .eq 65, .iload 2, .ireturn, .iinc 2 (1), .iload 4, .iconst 1, .iadd, .istore 3, .goto 10, .iconst (-1), .ireturn]
/- BeastCaveModel.fails(I)Z -/
def bc_c220 : List Instr := [.aload 0, .getfield 786, .ifCond .ne 16, .aload 0, .aload 0, .getfield 780, .iconst 1, .if_icmp .ne 10, .iconst 1, .goto 11, .iload 1, .putfield 786, .aload 0, .aload 0, .getfield 781, .putfield 785, .iconst 0, .ireturn]
/- BeastCaveModel.begins(II)Z -/
def bc_c221 : List Instr := [.iload 1, .ifCond .lt 9, .iload 1, .aload 0, .getfield 778, .if_icmp .gt 9, .iload 1, .iload 2, .if_icmp .le 11, .iconst 0, .ireturn, .aload 0, .iload 1, .putfield 779, .iconst 0, .istore 3, .iload 3, .iload 1, .if_icmp .ge 29, .aload 0, .getfield 777, .iload 3, .aload 0, .getfield 776, .iload 3, .baload, .bastore, .iinc 3 (1), .goto 16, .aload 0, .iconst 0, .putfield 778, .aload 0, .iconst 0, .putfield 786, .aload 0, .iconst (-1), .putfield 785, .aload 0, .iconst 0, .putfield 782, .aload 0, .iconst 0, .putfield 787, .aload 0, .invokevirtual 217, .iconst 1, .ireturn]
/- BeastCaveModel.wantSign(I)Z -/
def bc_c222 : List Instr := [.aload 0, .iload 1, .invokevirtual 218, .ifCond .ne 8, .aload 0, .iconst 2, .invokevirtual 220, .ireturn, .aload 0, .invokevirtual 217, .iconst 1, .ireturn]
/- BeastCaveModel.wantWord(Ljava/lang/String;I)Z -/
def bc_c223 : List Instr := [.aload 0, .aload 1, .invokevirtual 219, .iload 2, .if_icmp .eq 9, .aload 0, .iconst 2, .invokevirtual 220, .ireturn, .aload 0, .invokevirtual 217, .iconst 1, .ireturn]
/- BeastCaveModel.number(III)Z -/
def bc_c224 : List Instr := [.aload 0, .getfield 780, .iconst 3, .if_icmp .eq 8, .aload 0, .iconst 2, .invokevirtual 220, .ireturn, .aload 0, .getfield 783, .iload 2, .if_icmp .lt 16, .aload 0, .getfield 783, .iload 3, .if_icmp .le 20, .aload 0, .iconst 4, .invokevirtual 220, .ireturn, .aload 0, .getfield 768, .iload 1, .aload 0, .getfield 783, .iastore, .aload 0, .invokevirtual 217, .iconst 1, .ireturn]
/- BeastCaveModel.isName(Ljava/lang/String;)Z -/
def bc_c225 : List Instr := [.aload 0, .getfield 780, .iconst 2, .if_icmp .ne 18, .aload 0, .getfield 782, .aload 0, .getfield 781, .isub, .iconst 8, .if_icmp .gt 18, .aload 0, .aload 1, .invokevirtual 219, .iconst (-1), .if_icmp .ne 18, .iconst 1, .goto 19, .iconst 0, .ireturn]
/- BeastCaveModel.nameHere()J -/
def bc_c226 : List Instr := [.sipush 0, .lstore 1, .aload 0, .getfield 781, .istore 3, .iload 3, .aload 0, .getfield 782, .if_icmp .ge 20, .lload 1, .iconst 8, .lshl, .aload 0, .iload 3, .invokevirtual 214, .i2l, .lor, .lstore 1, .iinc 3 (1), .goto 5, .lload 1, .lreturn]
/- BeastCaveModel.findHere(II)I -/
def bc_c227 : List Instr := [.iconst 0, .istore 3, .iload 3, .iload 2, .if_icmp .ge 19, .aload 0, .getfield 769, .iload 1, .iload 3, .iadd, .laload, .aload 0, .invokevirtual 226, .lcmp, .ifCond .ne 17, .iload 3, .ireturn, .iinc 3 (1), .goto 2, .iconst (-1), .ireturn]
/- BeastCaveModel.fault(I)I -/
def bc_c228 : List Instr := [.iload 1, .ifCond .ne 5, .aload 0, .getfield 784, .goto 12, .iload 1, .iconst 1, .if_icmp .ne 11, .aload 0, .getfield 785, .goto 12, .iconst (-1), .ireturn]
/- BeastCaveModel.taken(I)I -/
def bc_c229 : List Instr := [.aload 0, .aload 0, .getfield 786, .putfield 784, .aload 0, .getfield 786, .ifCond .le 11, .aload 0, .iconst 9, .invokevirtual 200, .goto 14, .aload 0, .iload 1, .invokevirtual 201, .ireturn]
/- BeastCaveModel.wallRow(I)I -/
def bc_c230 : List Instr := [.iconst 10, .iconst 2, .iload 0, .imul, .iadd, .ireturn]
/- BeastCaveModel.visitorRow(I)I -/
def bc_c231 : List Instr := [.iconst 54, .iconst 8, .iload 0, .imul, .iadd, .ireturn]
/- BeastCaveModel.figureRow(I)I -/
def bc_c232 : List Instr := [.iconst 102, .iconst 4, .iload 0, .imul, .iadd, .ireturn]
/- BeastCaveModel.isThere(I)Z -/
def bc_c233 : List Instr := [.aload 0, .ldc 1, .invokevirtual 219, .iload 1, .if_icmp .eq 7, .iconst 0, .ireturn, .aload 0, .invokevirtual 217, .iconst 1, .ireturn]
/- BeastCaveModel.isOld()Z -/
def bc_c234 : List Instr := [.aload 0, .iconst 104, .aload 0, .getfield 768, .iconst 2112, .iaload, .invokevirtual 227, .iconst (-1), .if_icmp .ne 18, .aload 0, .iconst 109, .aload 0, .getfield 768, .iconst 2113, .iaload, .invokevirtual 227, .iconst (-1), .if_icmp .eq 20, .iconst 1, .ireturn, .aload 0, .iconst 116, .aload 0, .getfield 768, .iconst 2114, .iaload, .invokevirtual 227, .iconst (-1), .if_icmp .ne 38, .aload 0, .iconst 122, .aload 0, .getfield 768, .iconst 2115, .iaload, .invokevirtual 227, .iconst (-1), .if_icmp .eq 40, .iconst 1, .goto 41, .iconst 0, .ireturn]
/- BeastCaveModel.newOne(III)Z -/
def bc_c235 : List Instr := [.aload 0, .getfield 768, .iconst 2112, .iload 1, .iadd, .iaload, .iload 2, .if_icmp .ne 12, .aload 0, .iconst 6, .invokevirtual 220, .ireturn, .aload 0, .invokevirtual 217, .aload 0, .ldc 1, .invokevirtual 225, .ifCond .ne 22, .aload 0, .iconst 2, .invokevirtual 220, .ireturn, .aload 0, .invokevirtual 234, .ifCond .eq 29, .aload 0, .iconst 3, .invokevirtual 220, .ireturn, .aload 0, .getfield 769, .iconst 104, .iload 3, .iadd, .aload 0, .getfield 768, .iconst 2112, .iload 1, .iadd, .iaload, .iadd, .aload 0, .invokevirtual 226, .lastore, .aload 0, .invokevirtual 217, .iconst 1, .ireturn]
/- BeastCaveModel.oldOne(III)Z -/
def bc_c236 : List Instr := [.aload 0, .ldc 1, .invokevirtual 225, .ifCond .ne 8, .aload 0, .iconst 2, .invokevirtual 220, .ireturn, .aload 0, .getfield 768, .iload 3, .aload 0, .iload 1, .iload 2, .invokevirtual 227, .iastore, .aload 0, .getfield 768, .iload 3, .iaload, .iconst (-1), .if_icmp .ne 26, .aload 0, .iconst 3, .invokevirtual 220, .ireturn, .aload 0, .invokevirtual 217, .iconst 1, .ireturn]
/- BeastCaveModel.oldTwo(III)Z -/
def bc_c237 : List Instr := [.aload 0, .iload 1, .iload 2, .iload 3, .invokevirtual 236, .ifCond .ne 8, .iconst 0, .ireturn, .aload 0, .ldc 1, .invokevirtual 225, .ifCond .eq 25, .aload 0, .iload 1, .iload 2, .invokevirtual 227, .aload 0, .getfield 768, .iload 3, .iaload, .if_icmp .ne 25, .aload 0, .iconst 5, .invokevirtual 220, .ireturn, .aload 0, .iload 1, .iload 2, .iload 3, .iconst 1, .iadd, .invokevirtual 236, .ireturn]
/- BeastCaveModel.newBeastTo(I)Z -/
def bc_c238 : List Instr := [.aload 0, .iconst 104, .aload 0, .getfield 768, .iconst 2112, .iaload, .iload 1, .invokevirtual 236, .ireturn]
/- BeastCaveModel.aBeast()Z -/
def bc_c239 : List Instr := [.aload 0, .iconst 0, .iconst 5, .iconst 0, .invokevirtual 235, .ifCond .ne 8, .iconst 0, .ireturn, .aload 0, .getfield 768, .iconst 2112, .dup2, .iaload, .iconst 1, .iadd, .iastore, .iconst 1, .ireturn]
/- BeastCaveModel.aWall()Z -/
def bc_c240 : List Instr := [.iconst 2112, .aload 0, .getfield 768, .iconst 2113, .iaload, .invokestatic 230, .iadd, .istore 1, .aload 0, .iconst 1, .iconst 7, .iconst 5, .invokevirtual 235, .ifCond .ne 16, .iconst 0, .ireturn, .aload 0, .getfield 768, .iload 1, .iconst (-1), .iastore, .aload 0, .iconst 9, .invokevirtual 233, .ifCond .eq 44, .aload 0, .iload 1, .invokevirtual 238, .ifCond .eq 42, .aload 0, .ldc 1, .iconst 10, .invokevirtual 223, .ifCond .eq 42, .aload 0, .iload 1, .iconst 1, .iadd, .iconst 1, .iconst 9, .invokevirtual 224, .ifCond .ne 44, .iconst 0, .ireturn, .aload 0, .getfield 768, .iconst 2113, .dup2, .iaload, .iconst 1, .iadd, .iastore, .iconst 1, .ireturn]
/- BeastCaveModel.aWay()Z -/
def bc_c241 : List Instr := [.aload 0, .getfield 768, .iconst 2119, .iaload, .iconst 10, .if_icmp .ne 10, .aload 0, .iconst 6, .invokevirtual 220, .ireturn, .iconst 2136, .iconst 3, .aload 0, .getfield 768, .iconst 2119, .iaload, .imul, .iadd, .istore 1, .aload 0, .invokevirtual 217, .aload 0, .iconst 109, .aload 0, .getfield 768, .iconst 2113, .iaload, .iload 1, .invokevirtual 237, .ifCond .eq 43, .aload 0, .ldc 1, .iconst 11, .invokevirtual 223, .ifCond .eq 43, .aload 0, .iload 1, .iconst 2, .iadd, .iconst 1, .iconst 9, .invokevirtual 224, .ifCond .ne 45, .iconst 0, .ireturn, .aload 0, .getfield 768, .iconst 2119, .dup2, .iaload, .iconst 1, .iadd, .iastore, .iconst 1, .ireturn]
/- BeastCaveModel.aVisitor()Z -/
def bc_c242 : List Instr := [.iconst 2112, .aload 0, .getfield 768, .iconst 2114, .iaload, .invokestatic 231, .iadd, .istore 1, .aload 0, .iconst 2, .iconst 6, .iconst 12, .invokevirtual 235, .ifCond .eq 25, .aload 0, .ldc 1, .iconst 12, .invokevirtual 223, .ifCond .eq 25, .aload 0, .iload 1, .iconst 1, .iconst 60, .invokevirtual 224, .ifCond .ne 27, .iconst 0, .ireturn, .aload 0, .ldc 1, .iconst 13, .invokevirtual 223, .ifCond .eq 43, .aload 0, .iconst 109, .aload 0, .getfield 768, .iconst 2113, .iaload, .iload 1, .iconst 1, .iadd, .invokevirtual 236, .ifCond .ne 45, .iconst 0, .ireturn, .aload 0, .getfield 768, .iconst 2114, .dup2, .iaload, .iconst 1, .iadd, .iastore, .iconst 1, .ireturn]
/- BeastCaveModel.aFigure()Z -/
def bc_c243 : List Instr := [.iconst 2112, .aload 0, .getfield 768, .iconst 2115, .iaload, .invokestatic 232, .iadd, .istore 1, .aload 0, .iconst 3, .iconst 8, .iconst 18, .invokevirtual 235, .ifCond .eq 23, .aload 0, .ldc 1, .iconst 9, .invokevirtual 223, .ifCond .eq 23, .aload 0, .iload 1, .invokevirtual 238, .ifCond .ne 25, .iconst 0, .ireturn, .aload 0, .ldc 1, .iconst 14, .invokevirtual 223, .ifCond .eq 48, .aload 0, .iload 1, .iconst 1, .iadd, .iconst 0, .iconst 9, .invokevirtual 224, .ifCond .eq 48, .aload 0, .iload 1, .iconst 1, .iadd, .iconst 1, .iadd, .iconst 0, .iconst 9, .invokevirtual 224, .ifCond .ne 50, .iconst 0, .ireturn, .aload 0, .getfield 768, .iconst 2115, .dup2, .iaload, .iconst 1, .iadd, .iastore, .iconst 1, .ireturn]
/- BeastCaveModel.anOver()Z -/
def bc_c244 : List Instr := [.iconst 2632, .istore 1, .aload 0, .invokevirtual 217, .aload 0, .iconst 122, .aload 0, .getfield 768, .iconst 2115, .iaload, .iload 1, .invokevirtual 237, .ifCond .ne 15, .iconst 0, .ireturn, .aload 0, .getfield 768, .iconst 2112, .aload 0, .getfield 768, .iload 1, .iaload, .invokestatic 232, .iadd, .iconst 3, .iadd, .dup2, .iaload, .iconst 1, .aload 0, .getfield 768, .iload 1, .iconst 1, .iadd, .iaload, .ishl, .ior, .iastore, .iconst 1, .ireturn]
/- BeastCaveModel.aFollowing()Z -/
def bc_c245 : List Instr := [.iconst 2632, .istore 1, .aload 0, .invokevirtual 217, .aload 0, .iload 1, .invokevirtual 238, .ifCond .eq 19, .aload 0, .iload 1, .iconst 1, .iadd, .invokevirtual 238, .ifCond .eq 19, .aload 0, .ldc 1, .iconst 15, .invokevirtual 223, .ifCond .ne 21, .iconst 0, .ireturn, .aload 0, .iconst 2246, .iconst 5, .aload 0, .getfield 768, .iload 1, .iaload, .imul, .iadd, .aload 0, .getfield 768, .iload 1, .iconst 1, .iadd, .iaload, .iadd, .iconst 1, .iconst 9, .invokevirtual 224, .ireturn]
/- BeastCaveModel.cavePart()Z -/
def bc_c246 : List Instr := [.aload 0, .ldc 1, .invokevirtual 219, .istore 1, .iload 1, .ifCond .lt 9, .iload 1, .iconst 8, .if_icmp .le 13, .aload 0, .iconst 2, .invokevirtual 220, .ireturn, .iload 1, .iconst 1, .if_icmp .gt 28, .aload 0, .getfield 788, .iload 1, .ishr, .iconst 1, .iand, .iconst 1, .if_icmp .ne 28, .aload 0, .iconst 5, .invokevirtual 220, .ireturn, .aload 0, .dup, .getfield 788, .iconst 1, .iload 1, .ishl, .ior, .putfield 788, .iload 1, .iconst 1, .if_icmp .gt 41, .aload 0, .invokevirtual 217, .iload 1, .lookupswitch 81 #[(0, 43), (1, 50), (2, 57), (3, 61), (4, 65), (5, 69), (6, 73), (7, 77)], .aload 0, .iconst 2116, .iconst 0, .iconst 99, .invokevirtual 224, .istore 2, .goto 84, .aload 0, .iconst 2117, .iconst 0, .iconst 16, .invokevirtual 224, .istore 2, .goto 84, .aload 0, .invokevirtual 239, .istore 2, .goto 84, .aload 0, .invokevirtual 240, .istore 2, .goto 84, .aload 0, .invokevirtual 241, .istore 2, .goto 84, .aload 0, .invokevirtual 242, .istore 2, .goto 84, .aload 0, .invokevirtual 243, .istore 2, .goto 84, .aload 0, .invokevirtual 244, .istore 2, .goto 84, .aload 0, .invokevirtual 245, .istore 2, .iload 2, .ifCond .eq 92, .aload 0, .iconst 59, .invokevirtual 222, .ifCond .eq 92, .iconst 1, .goto 93, .iconst 0, .ireturn]
/- BeastCaveModel.cave(I)I -/
def bc_c247 : List Instr := [.aload 0, .iload 1, .iconst 900, .invokevirtual 221, .ifCond .ne 9, .aload 0, .iconst 1, .invokevirtual 200, .ireturn, .aload 0, .iconst 2112, .invokevirtual 195, .aload 0, .iconst 0, .putfield 788, .iconst 1, .istore 2, .iload 2, .ifCond .eq 26, .aload 0, .getfield 780, .ifCond .eq 26, .aload 0, .invokevirtual 246, .istore 2, .goto 17, .aload 0, .getfield 786, .ifCond .ne 63, .iconst 0, .istore 3, .iload 3, .iconst 528, .if_icmp .ge 46, .aload 0, .getfield 768, .iload 3, .aload 0, .getfield 768, .iconst 2112, .iload 3, .iadd, .iaload, .iastore, .iinc 3 (1), .goto 31, .iconst 0, .istore 3, .iload 3, .iconst 26, .if_icmp .ge 63, .aload 0, .getfield 769, .iload 3, .aload 0, .getfield 769, .iconst 104, .iload 3, .iadd, .laload, .lastore, .iinc 3 (1), .goto 48, .aload 0, .aload 0, .getfield 768, .iconst 2, .iaload, .invokevirtual 229, .ireturn]
/- BeastCaveModel.visitorTo(I)Z -/
def bc_c248 : List Instr := [.aload 0, .iconst 12, .aload 0, .getfield 768, .iconst 2, .iaload, .iload 1, .invokevirtual 236, .ireturn]
/- BeastCaveModel.wallTo(I)Z -/
def bc_c249 : List Instr := [.aload 0, .iconst 5, .aload 0, .getfield 768, .iconst 1, .iaload, .iload 1, .invokevirtual 236, .ireturn]
/- BeastCaveModel.test(I)Z -/
def bc_c250 : List Instr := [.aload 0, .ldc 1, .invokevirtual 219, .istore 2, .iload 2, .iconst 13, .if_icmp .eq 17, .iload 2, .iconst 12, .if_icmp .eq 17, .iload 2, .iconst 25, .if_icmp .ge 17, .aload 0, .iconst 2, .invokevirtual 220, .ireturn, .aload 0, .getfield 768, .iload 1, .iconst 2100, .iload 2, .iadd, .iastore, .aload 0, .invokevirtual 217, .iload 2, .iconst 26, .if_icmp .ne 31, .iconst 1, .ireturn, .aload 0, .iload 1, .iconst 1, .iadd, .invokevirtual 248, .ifCond .ne 39, .iconst 0, .ireturn, .iload 2, .iconst 25, .if_icmp .ne 44, .iconst 1, .ireturn, .iload 2, .iconst 13, .if_icmp .ne 53, .aload 0, .iload 1, .iconst 2, .iadd, .invokevirtual 249, .ireturn, .aload 0, .iconst 60, .invokevirtual 218, .ifCond .ne 69, .aload 0, .iconst 62, .invokevirtual 218, .ifCond .ne 69, .aload 0, .iconst 61, .invokevirtual 218, .ifCond .ne 69, .aload 0, .iconst 2, .invokevirtual 220, .ireturn, .aload 0, .getfield 768, .iload 1, .iconst 5, .iadd, .aload 0, .getfield 783, .iastore, .aload 0, .invokevirtual 217, .aload 0, .iload 1, .iconst 2, .iadd, .iconst 0, .iconst 99, .invokevirtual 224, .ireturn]
/- BeastCaveModel.dayOrder(II)Z -/
def bc_c251 : List Instr := [.iload 1, .lookupswitch 52 #[(16, 2), (17, 10), (18, 26), (19, 32), (20, 52), (21, 48), (22, 40)], .aload 0, .iload 2, .iconst 1, .iadd, .iconst 1, .iconst 60, .invokevirtual 224, .ireturn, .aload 0, .iload 2, .iconst 1, .iadd, .invokevirtual 248, .ifCond .eq 24, .aload 0, .iload 2, .iconst 2, .iadd, .invokevirtual 249, .ifCond .eq 24, .iconst 1, .goto 25, .iconst 0, .ireturn, .aload 0, .iload 2, .iconst 1, .iadd, .invokevirtual 248, .ireturn, .aload 0, .iload 2, .iconst 1, .iadd, .iconst 1, .iconst 99, .invokevirtual 224, .ireturn, .aload 0, .iload 2, .iconst 1, .iadd, .iconst 1, .iconst 99, .invokevirtual 224, .ireturn, .aload 0, .iload 2, .invokevirtual 250, .ireturn, .iconst 1, .ireturn]
/- BeastCaveModel.dayStep()Z -/
def bc_c252 : List Instr := [.aload 0, .ldc 1, .invokevirtual 219, .istore 1, .aload 0, .getfield 768, .iconst 2120, .iaload, .istore 2, .iconst 2272, .iconst 6, .iload 2, .imul, .iadd, .istore 3, .iload 1, .iconst 21, .if_icmp .eq 21, .iload 1, .iconst 22, .if_icmp .ne 23, .iconst 1, .goto 24, .iconst 0, .istore 4, .iload 1, .iconst 16, .if_icmp .lt 37, .iload 1, .iconst 24, .if_icmp .gt 37, .iload 1, .iconst 23, .if_icmp .ne 41, .aload 0, .getfield 790, .ifCond .ne 41, .aload 0, .iconst 2, .invokevirtual 220, .ireturn, .iload 1, .iconst 23, .if_icmp .eq 52, .aload 0, .getfield 791, .iconst 30, .if_icmp .ne 52, .aload 0, .iconst 6, .invokevirtual 220, .ireturn, .iload 4, .ifCond .eq 62, .aload 0, .getfield 790, .iconst 3, .if_icmp .ne 62, .aload 0, .iconst 7, .invokevirtual 220, .ireturn, .aload 0, .dup, .getfield 791, .iload 1, .iconst 23, .if_icmp .ne 70, .iconst 0, .goto 71, .iconst 1, .iadd, .putfield 791, .aload 0, .getfield 768, .iload 3, .iload 1, .iastore, .iconst 1, .istore 5, .iload 5, .iconst 6, .if_icmp .ge 92, .aload 0, .getfield 768, .iload 3, .iload 5, .iadd, .iconst 0, .iastore, .iinc 5 (1), .goto 80, .aload 0, .getfield 768, .iconst 2120, .dup2, .iaload, .iconst 1, .iadd, .iastore, .aload 0, .invokevirtual 217, .aload 0, .iload 1, .iload 3, .invokevirtual 251, .ifCond .ne 109, .iconst 0, .ireturn, .iload 4, .ifCond .eq 123, .aload 0, .getfield 789, .aload 0, .getfield 790, .iload 2, .iastore, .aload 0, .dup, .getfield 790, .iconst 1, .iadd, .putfield 790, .iload 1, .iconst 23, .if_icmp .ne 158, .aload 0, .dup, .getfield 790, .iconst 1, .isub, .putfield 790, .aload 0, .getfield 768, .iload 3, .iconst 4, .iadd, .aload 0, .getfield 789, .aload 0, .getfield 790, .iaload, .iastore, .aload 0, .getfield 768, .iconst 2272, .iconst 6, .aload 0, .getfield 789, .aload 0, .getfield 790, .iaload, .imul, .iadd, .iconst 4, .iadd, .iload 2, .iastore, .aload 0, .iconst 59, .invokevirtual 222, .ireturn]
/- BeastCaveModel.days(I)I -/
def bc_c253 : List Instr := [.aload 0, .iload 1, .iconst 300, .invokevirtual 221, .ifCond .ne 9, .aload 0, .iconst 1, .invokevirtual 200, .ireturn, .aload 0, .getfield 768, .iconst 2120, .iconst 0, .iastore, .aload 0, .iconst 0, .putfield 790, .aload 0, .iconst 0, .putfield 791, .iconst 1, .istore 2, .iload 2, .ifCond .eq 31, .aload 0, .getfield 780, .ifCond .eq 31, .aload 0, .invokevirtual 252, .istore 2, .goto 22, .aload 0, .getfield 786, .ifCond .ne 41, .aload 0, .getfield 790, .ifCond .le 41, .aload 0, .iconst 2, .invokevirtual 220, .pop, .aload 0, .getfield 786, .ifCond .ne 69, .aload 0, .getfield 768, .iconst 8, .aload 0, .getfield 768, .iconst 2120, .iaload, .iastore, .iconst 160, .istore 3, .iload 3, .iconst 520, .if_icmp .ge 69, .aload 0, .getfield 768, .iload 3, .aload 0, .getfield 768, .iconst 2112, .iload 3, .iadd, .iaload, .iastore, .iinc 3 (1), .goto 54, .aload 0, .aload 0, .getfield 791, .invokevirtual 229, .ireturn]
/- BeastCaveModel.isBeast(I)Z -/
def bc_c254 : List Instr := [.iload 1, .ifCond .lt 10, .iload 1, .aload 0, .getfield 768, .iconst 0, .iaload, .if_icmp .ge 10, .iconst 1, .goto 11, .iconst 0, .ireturn]
/- BeastCaveModel.isWall(I)Z -/
def bc_c255 : List Instr := [.iload 1, .ifCond .lt 10, .iload 1, .aload 0, .getfield 768, .iconst 1, .iaload, .if_icmp .ge 10, .iconst 1, .goto 11, .iconst 0, .ireturn]
/- BeastCaveModel.isVisitor(I)Z -/
def bc_c256 : List Instr := [.iload 1, .ifCond .lt 10, .iload 1, .aload 0, .getfield 768, .iconst 2, .iaload, .if_icmp .ge 10, .iconst 1, .goto 11, .iconst 0, .ireturn]
/- BeastCaveModel.isFigure(I)Z -/
def bc_c257 : List Instr := [.iload 1, .ifCond .lt 10, .iload 1, .aload 0, .getfield 768, .iconst 3, .iaload, .if_icmp .ge 10, .iconst 1, .goto 11, .iconst 0, .ireturn]
/- BeastCaveModel.isIn(II)Z -/
def bc_c258 : List Instr := [.iload 1, .iload 2, .ishr, .iconst 1, .iand, .iconst 1, .if_icmp .ne 9, .iconst 1, .goto 10, .iconst 0, .ireturn]
/- BeastCaveModel.bits(I)I -/
def bc_c259 : List Instr := [.iconst 0, .istore 1, .iload 0, .istore 2, .iload 2, .ifCond .eq 14, .iinc 1 (1), .iload 2, .iload 2, .iconst 1, .isub, .iand, .istore 2, .goto 4, .iload 1, .ireturn]
/- BeastCaveModel.wallOf(II)I -/
def bc_c260 : List Instr := [.aload 0, .getfield 768, .iload 1, .invokestatic 230, .iload 2, .iadd, .iaload, .ireturn]
/- BeastCaveModel.visitorOf(II)I -/
def bc_c261 : List Instr := [.aload 0, .getfield 768, .iload 1, .invokestatic 231, .iload 2, .iadd, .iaload, .ireturn]
/- BeastCaveModel.figureOf(II)I -/
def bc_c262 : List Instr := [.aload 0, .getfield 768, .iload 1, .invokestatic 232, .iload 2, .iadd, .iaload, .ireturn]
/- BeastCaveModel.weightOf(II)I -/
def bc_c263 : List Instr := [.aload 0, .getfield 768, .iconst 134, .iconst 5, .iload 1, .imul, .iadd, .iload 2, .iadd, .iaload, .ireturn]
/- BeastCaveModel.greatestOf(I)I -/
def bc_c264 : List Instr := [.iconst (-1), .istore 2, .iconst 0, .istore 3, .iload 3, .aload 0, .getfield 768, .iconst 0, .iaload, .if_icmp .ge 30, .iload 2, .iconst (-1), .if_icmp .eq 26, .aload 0, .iload 1, .iconst 3, .iload 3, .iadd, .invokevirtual 261, .aload 0, .iload 1, .iconst 3, .iload 2, .iadd, .invokevirtual 261, .if_icmp .le 28, .iload 3, .istore 2, .iinc 3 (1), .goto 4, .iload 2, .ireturn]
/- BeastCaveModel.mostOf(I)I -/
def bc_c265 : List Instr := [.aload 0, .iload 1, .invokevirtual 264, .istore 2, .iload 2, .iconst (-1), .if_icmp .ne 9, .iconst 0, .goto 15, .aload 0, .iload 1, .iconst 3, .iload 2, .iadd, .invokevirtual 261, .ireturn]
/- BeastCaveModel.isTurned(I)Z -/
def bc_c266 : List Instr := [.aload 0, .iload 1, .invokevirtual 265, .aload 0, .iload 1, .iconst 0, .invokevirtual 261, .if_icmp .le 10, .iconst 1, .goto 11, .iconst 0, .ireturn]
/- BeastCaveModel.whoIs(I)I -/
def bc_c267 : List Instr := [.aload 0, .iload 1, .invokevirtual 266, .ifCond .eq 8, .aload 0, .iload 1, .invokevirtual 264, .goto 9, .iconst (-1), .ireturn]
/- BeastCaveModel.bareOnes()I -/
def bc_c268 : List Instr := [.iconst 0, .istore 1, .iconst 0, .istore 2, .iload 2, .aload 0, .getfield 768, .iconst 1, .iaload, .if_icmp .ge 26, .iload 1, .aload 0, .iload 2, .iconst 0, .invokevirtual 260, .iconst (-1), .if_icmp .ne 21, .iconst 1, .iload 2, .ishl, .goto 22, .iconst 0, .ior, .istore 1, .iinc 2 (1), .goto 4, .iload 1, .ireturn]
/- BeastCaveModel.visitorsThat(I)I -/
def bc_c269 : List Instr := [.iconst 0, .istore 2, .iconst 0, .istore 3, .iload 3, .aload 0, .getfield 768, .iconst 2, .iaload, .if_icmp .ge 37, .iload 1, .ifCond .ne 16, .aload 0, .iload 3, .invokevirtual 266, .goto 24, .aload 0, .iload 3, .iconst 2, .invokevirtual 261, .ifCond .le 23, .iconst 1, .goto 24, .iconst 0, .istore 4, .iload 2, .iload 4, .ifCond .eq 32, .iconst 1, .iload 3, .ishl, .goto 33, .iconst 0, .ior, .istore 2, .iinc 3 (1), .goto 4, .iload 2, .ireturn]
/- BeastCaveModel.told(I)I -/
def bc_c270 : List Instr := [.iload 1, .ifCond .lt 5, .iload 1, .iconst 9, .if_icmp .le 9, .aload 0, .iconst 1, .invokevirtual 200, .ireturn, .iload 1, .iconst 7, .if_icmp .ge 19, .aload 0, .aload 0, .getfield 768, .iload 1, .iaload, .invokevirtual 201, .ireturn, .aload 0, .iload 1, .iconst 7, .if_icmp .ne 26, .aload 0, .invokevirtual 268, .goto 31, .aload 0, .iload 1, .iconst 8, .isub, .invokevirtual 269, .invokevirtual 201, .ireturn]
/- BeastCaveModel.wall(II)I -/
def bc_c271 : List Instr := [.aload 0, .iload 1, .invokevirtual 255, .ifCond .eq 9, .iload 2, .ifCond .lt 9, .iload 2, .iconst 1, .if_icmp .le 13, .aload 0, .iconst 1, .invokevirtual 200, .ireturn, .aload 0, .iload 1, .iconst 0, .invokevirtual 260, .iconst (-1), .if_icmp .ne 23, .aload 0, .iconst 6, .invokevirtual 200, .goto 29, .aload 0, .aload 0, .iload 1, .iload 2, .invokevirtual 260, .invokevirtual 201, .ireturn]
/- BeastCaveModel.visitor(II)I -/
def bc_c272 : List Instr := [.aload 0, .iload 1, .invokevirtual 256, .ifCond .eq 9, .iload 2, .ifCond .lt 9, .iload 2, .iconst 3, .if_icmp .le 13, .aload 0, .iconst 1, .invokevirtual 200, .ireturn, .aload 0, .iload 2, .iconst 3, .if_icmp .ne 21, .aload 0, .iload 1, .invokevirtual 265, .goto 25, .aload 0, .iload 1, .iload 2, .invokevirtual 261, .invokevirtual 201, .ireturn]
/- BeastCaveModel.measure(II)I -/
def bc_c273 : List Instr := [.aload 0, .iload 1, .invokevirtual 256, .ifCond .eq 17, .aload 0, .iload 2, .invokevirtual 254, .ifCond .eq 17, .aload 0, .aload 0, .iload 1, .iconst 3, .iload 2, .iadd, .invokevirtual 261, .invokevirtual 201, .goto 20, .aload 0, .iconst 1, .invokevirtual 200, .ireturn]
/- BeastCaveModel.who(I)I -/
def bc_c274 : List Instr := [.aload 0, .iload 1, .invokevirtual 256, .ifCond .eq 10, .aload 0, .aload 0, .iload 1, .invokevirtual 267, .invokevirtual 202, .goto 13, .aload 0, .iconst 1, .invokevirtual 200, .ireturn]
/- BeastCaveModel.figure(II)I -/
def bc_c275 : List Instr := [.aload 0, .iload 1, .invokevirtual 257, .ifCond .eq 9, .iload 2, .ifCond .lt 9, .iload 2, .iconst 3, .if_icmp .le 13, .aload 0, .iconst 1, .invokevirtual 200, .ireturn, .aload 0, .aload 0, .iload 1, .iload 2, .invokevirtual 262, .invokevirtual 201, .ireturn]
/- BeastCaveModel.weight(II)I -/
def bc_c276 : List Instr := [.aload 0, .iload 1, .invokevirtual 254, .ifCond .eq 15, .aload 0, .iload 2, .invokevirtual 254, .ifCond .eq 15, .aload 0, .aload 0, .iload 1, .iload 2, .invokevirtual 263, .invokevirtual 201, .goto 18, .aload 0, .iconst 1, .invokevirtual 200, .ireturn]
/- BeastCaveModel.looksAt(II)V -/
def bc_c277 : List Instr := [.iload 2, .iconst (-1), .if_icmp .ne 5, .iconst (-1), .goto 9, .aload 0, .iload 2, .iconst 0, .invokevirtual 260, .istore 3, .iconst 0, .istore 4, .iload 4, .aload 0, .getfield 768, .iconst 0, .iaload, .if_icmp .ge 54, .iload 1, .invokestatic 231, .iconst 3, .iadd, .iload 4, .iadd, .istore 5, .aload 0, .getfield 768, .iload 5, .iload 4, .iload 3, .if_icmp .ne 43, .iconst 99, .aload 0, .getfield 768, .iload 5, .iaload, .aload 0, .iload 2, .iconst 1, .invokevirtual 260, .iadd, .ret 6, .goto 51, .iconst 0, .aload 0, .getfield 768, .iload 5, .iaload, .iconst 1, .isub, .ret 5, .iastore, .iinc 4 (1), .goto 12, .return_]
/- BeastCaveModel.minuteGoes()I -/
def bc_c278 : List Instr := [.aload 0, .iconst 0, .invokevirtual 269, .istore 1, .iconst 0, .istore 2, .iload 2, .aload 0, .getfield 768, .iconst 2, .iaload, .if_icmp .ge 52, .aload 0, .iload 2, .iconst 2, .invokevirtual 261, .ifCond .le 19, .iconst 1, .goto 20, .iconst 0, .istore 3, .iload 3, .ifCond .eq 34, .aload 0, .getfield 768, .iload 2, .invokestatic 231, .iconst 2, .iadd, .dup2, .iaload, .iconst 1, .isub, .iastore, .aload 0, .iload 2, .iload 3, .ifCond .ne 43, .aload 0, .getfield 768, .iconst 4, .iaload, .ifCond .ne 45, .iconst (-1), .goto 49, .aload 0, .iload 2, .iconst 1, .invokevirtual 261, .invokevirtual 277, .iinc 2 (1), .goto 6, .aload 0, .getfield 768, .iconst 4, .iconst 0, .aload 0, .getfield 768, .iconst 4, .iaload, .iconst 1, .isub, .ret 5, .iastore, .aload 0, .getfield 768, .iconst 6, .dup2, .iaload, .iconst 1, .iadd, .iastore, .aload 0, .iconst 0, .invokevirtual 269, .iload 1, .iconst (-1), .ixor, .iand, .invokestatic 259, .ireturn]
/- BeastCaveModel.minutesGo(I)I -/
def bc_c279 : List Instr := [.iconst 0, .istore 2, .iconst 0, .istore 3, .iload 3, .iload 1, .if_icmp .ge 14, .iload 2, .aload 0, .invokevirtual 278, .iadd, .istore 2, .iinc 3 (1), .goto 4, .iload 2, .ireturn]
/- BeastCaveModel.minute(I)I -/
def bc_c280 : List Instr := [.iload 1, .i2l, .sipush 1, .sipush 240, .invokestatic 211, .ifCond .ne 10, .aload 0, .iconst 1, .invokevirtual 200, .ireturn, .aload 0, .getfield 768, .iconst 6, .iaload, .iload 1, .iadd, .iconst 9999, .if_icmp .le 22, .aload 0, .iconst 4, .invokevirtual 200, .ireturn, .aload 0, .iload 1, .invokevirtual 279, .pop, .aload 0, .aload 0, .iconst 0, .invokevirtual 269, .invokestatic 259, .invokevirtual 201, .ireturn]
/- BeastCaveModel.wayOf(II)I -/
def bc_c281 : List Instr := [.iconst 1000000, .istore 3, .iconst 0, .istore 4, .iload 4, .aload 0, .getfield 768, .iconst 7, .iaload, .if_icmp .ge 61, .iconst 24, .iconst 3, .iload 4, .imul, .iadd, .istore 5, .aload 0, .getfield 768, .iload 5, .iaload, .iload 1, .if_icmp .ne 30, .aload 0, .getfield 768, .iload 5, .iconst 1, .iadd, .iaload, .iload 2, .if_icmp .eq 44, .aload 0, .getfield 768, .iload 5, .iaload, .iload 2, .if_icmp .ne 46, .aload 0, .getfield 768, .iload 5, .iconst 1, .iadd, .iaload, .iload 1, .if_icmp .ne 46, .iconst 1, .goto 47, .iconst 0, .istore 6, .iload 6, .ifCond .eq 59, .iload 3, .aload 0, .getfield 768, .iload 5, .iconst 2, .iadd, .iaload, .ret 6, .istore 3, .iinc 4 (1), .goto 4, .iload 3, .ireturn]
/- BeastCaveModel.leads(II)Z -/
def bc_c282 : List Instr := [.iload 1, .invokestatic 231, .istore 3, .aload 0, .aload 0, .getfield 768, .iload 3, .iconst 1, .iadd, .iaload, .iload 2, .invokevirtual 281, .istore 4, .aload 0, .iload 1, .invokevirtual 266, .ifCond .ne 35, .aload 0, .getfield 768, .iload 3, .iconst 2, .iadd, .iaload, .ifCond .gt 35, .aload 0, .getfield 768, .iload 3, .iconst 1, .iadd, .iaload, .iload 2, .if_icmp .eq 35, .iload 4, .iconst 1000000, .if_icmp .ne 37, .iconst 0, .ireturn, .aload 0, .getfield 768, .iload 3, .iconst 1, .iadd, .iload 2, .iastore, .aload 0, .getfield 768, .iload 3, .iconst 2, .iadd, .iload 4, .iastore, .iconst 1, .ireturn]
/- BeastCaveModel.lead(II)I -/
def bc_c283 : List Instr := [.aload 0, .iload 1, .invokevirtual 256, .ifCond .eq 8, .aload 0, .iload 2, .invokevirtual 255, .ifCond .ne 12, .aload 0, .iconst 1, .invokevirtual 200, .ireturn, .aload 0, .iload 1, .iload 2, .invokevirtual 282, .ifCond .eq 24, .aload 0, .aload 0, .iload 1, .iconst 2, .invokevirtual 261, .invokevirtual 201, .goto 27, .aload 0, .iconst 7, .invokevirtual 200, .ireturn]
/- BeastCaveModel.wakes(I)Z -/
def bc_c284 : List Instr := [.aload 0, .iload 1, .invokevirtual 265, .ifCond .ne 6, .iconst 0, .ireturn, .iconst 0, .istore 2, .iload 2, .iconst 5, .if_icmp .ge 26, .aload 0, .getfield 768, .iload 1, .invokestatic 231, .iconst 3, .iadd, .iload 2, .iadd, .dup2, .iaload, .iconst 2, .idiv, .iastore, .iinc 2 (1), .goto 8, .iconst 1, .ireturn]
/- BeastCaveModel.wake(I)I -/
def bc_c285 : List Instr := [.aload 0, .iload 1, .invokevirtual 256, .ifCond .ne 8, .aload 0, .iconst 1, .invokevirtual 200, .ireturn, .aload 0, .iload 1, .invokevirtual 284, .ifCond .eq 18, .aload 0, .aload 0, .iload 1, .invokevirtual 265, .invokevirtual 201, .goto 21, .aload 0, .iconst 7, .invokevirtual 200, .ireturn]
/- BeastCaveModel.fills(I)Z -/
def bc_c286 : List Instr := [.aload 0, .getfield 768, .iconst 4, .iaload, .iload 1, .iadd, .iconst 999, .if_icmp .le 10, .iconst 0, .ireturn, .aload 0, .getfield 768, .iconst 4, .dup2, .iaload, .iload 1, .iadd, .iastore, .iconst 1, .ireturn]
/- BeastCaveModel.fill(I)I -/
def bc_c287 : List Instr := [.iload 1, .i2l, .sipush 1, .sipush 99, .invokestatic 211, .ifCond .ne 10, .aload 0, .iconst 1, .invokevirtual 200, .ireturn, .aload 0, .iload 1, .invokevirtual 286, .ifCond .eq 21, .aload 0, .aload 0, .getfield 768, .iconst 4, .iaload, .invokevirtual 201, .goto 24, .aload 0, .iconst 4, .invokevirtual 200, .ireturn]
/- BeastCaveModel.paint(III)Z -/
def bc_c288 : List Instr := [.aload 0, .iload 1, .invokevirtual 255, .ifCond .eq 14, .aload 0, .iload 2, .invokevirtual 254, .ifCond .eq 14, .iload 3, .i2l, .sipush 1, .sipush 9, .invokestatic 211, .ifCond .ne 18, .aload 0, .iconst 1, .invokevirtual 199, .ireturn, .aload 0, .getfield 768, .iload 1, .invokestatic 230, .iload 2, .iastore, .aload 0, .getfield 768, .iload 1, .invokestatic 230, .iconst 1, .iadd, .iload 3, .iastore, .aload 0, .iconst 0, .invokevirtual 199, .ireturn]
/- BeastCaveModel.scrub(I)I -/
def bc_c289 : List Instr := [.aload 0, .iload 1, .invokevirtual 255, .ifCond .ne 8, .aload 0, .iconst 1, .invokevirtual 200, .ireturn, .aload 0, .iload 1, .iconst 0, .invokevirtual 260, .istore 2, .iload 2, .iconst (-1), .if_icmp .ne 20, .aload 0, .iconst 7, .invokevirtual 200, .ireturn, .aload 0, .getfield 768, .iload 1, .invokestatic 230, .iconst (-1), .iastore, .aload 0, .iload 2, .invokevirtual 201, .ireturn]
/- BeastCaveModel.come(II)I -/
def bc_c290 : List Instr := [.iload 1, .i2l, .sipush 1, .sipush 60, .invokestatic 211, .ifCond .eq 10, .aload 0, .iload 2, .invokevirtual 255, .ifCond .ne 14, .aload 0, .iconst 1, .invokevirtual 200, .ireturn, .aload 0, .getfield 768, .iconst 2, .iaload, .istore 3, .iload 3, .iconst 6, .if_icmp .ne 26, .aload 0, .iconst 4, .invokevirtual 200, .ireturn, .aload 0, .getfield 768, .iconst 2, .dup2, .iaload, .iconst 1, .iadd, .iastore, .iconst 0, .istore 4, .iload 4, .iconst 8, .if_icmp .ge 49, .aload 0, .getfield 768, .iload 3, .invokestatic 231, .iload 4, .iadd, .iconst 0, .iastore, .iinc 4 (1), .goto 36, .aload 0, .getfield 768, .iload 3, .invokestatic 231, .iload 1, .iastore, .aload 0, .getfield 768, .iload 3, .invokestatic 231, .iconst 1, .iadd, .iload 2, .iastore, .aload 0, .getfield 769, .iconst 12, .iload 3, .iadd, .sipush 0, .lastore, .aload 0, .iload 3, .invokevirtual 201, .ireturn]
/- BeastCaveModel.draw(III)I -/
def bc_c291 : List Instr := [.aload 0, .iload 1, .invokevirtual 254, .ifCond .eq 16, .iload 2, .i2l, .sipush 0, .sipush 9, .invokestatic 211, .ifCond .eq 16, .iload 3, .i2l, .sipush 0, .sipush 9, .invokestatic 211, .ifCond .ne 20, .aload 0, .iconst 1, .invokevirtual 200, .ireturn, .aload 0, .getfield 768, .iconst 3, .iaload, .istore 4, .iload 4, .iconst 8, .if_icmp .ne 32, .aload 0, .iconst 4, .invokevirtual 200, .ireturn, .aload 0, .getfield 768, .iconst 3, .dup2, .iaload, .iconst 1, .iadd, .iastore, .aload 0, .getfield 768, .iload 4, .invokestatic 232, .iload 1, .iastore, .aload 0, .getfield 768, .iload 4, .invokestatic 232, .iconst 1, .iadd, .iload 2, .iastore, .aload 0, .getfield 768, .iload 4, .invokestatic 232, .iconst 1, .iadd, .iconst 1, .iadd, .iload 3, .iastore, .aload 0, .getfield 768, .iload 4, .invokestatic 232, .iconst 3, .iadd, .iconst 0, .iastore, .aload 0, .getfield 769, .iconst 18, .iload 4, .iadd, .sipush 0, .lastore, .aload 0, .iload 4, .invokevirtual 201, .ireturn]
/- BeastCaveModel.cover(II)Z -/
def bc_c292 : List Instr := [.aload 0, .iload 1, .invokevirtual 257, .ifCond .eq 11, .aload 0, .iload 2, .invokevirtual 257, .ifCond .eq 11, .iload 1, .iload 2, .if_icmp .ne 15, .aload 0, .iconst 1, .invokevirtual 199, .ireturn, .aload 0, .aload 0, .iload 1, .iconst 3, .invokevirtual 262, .iload 2, .invokevirtual 258, .ifCond .eq 27, .aload 0, .iconst 7, .invokevirtual 199, .ireturn, .aload 0, .getfield 768, .iload 1, .invokestatic 232, .iconst 3, .iadd, .dup2, .iaload, .iconst 1, .iload 2, .ishl, .ior, .iastore, .aload 0, .iconst 0, .invokevirtual 199, .ireturn]
/- BeastCaveModel.rule(I)Z -/
def bc_c293 : List Instr := [.iload 1, .i2l, .sipush 0, .sipush 16, .invokestatic 211, .ifCond .ne 10, .aload 0, .iconst 1, .invokevirtual 199, .ireturn, .aload 0, .getfield 768, .iconst 5, .iload 1, .iastore, .aload 0, .iconst 0, .invokevirtual 199, .ireturn]
/- BeastCaveModel.levelAt(I)I -/
def bc_c294 : List Instr := [.iconst 3168, .iconst 160, .iload 0, .imul, .iadd, .ireturn]
/- BeastCaveModel.keeps(I)V -/
def bc_c295 : List Instr := [.iconst 0, .istore 2, .iload 2, .iconst 160, .if_icmp .ge 17, .aload 0, .getfield 768, .iload 1, .iload 2, .iadd, .aload 0, .getfield 768, .iload 2, .iaload, .iastore, .iinc 2 (1), .goto 2, .return_]
/- BeastCaveModel.restores(I)V -/
def bc_c296 : List Instr := [.iconst 0, .istore 2, .iload 2, .iconst 160, .if_icmp .ge 17, .aload 0, .getfield 768, .iload 2, .aload 0, .getfield 768, .iload 1, .iload 2, .iadd, .iaload, .iastore, .iinc 2 (1), .goto 2, .return_]
/- BeastCaveModel.isSpan(I)Z -/
def bc_c297 : List Instr := [.iload 0, .i2l, .sipush 0, .sipush 200, .invokestatic 211, .ireturn]
/- BeastCaveModel.measureIn(III)I -/
def bc_c298 : List Instr := [.aload 0, .iload 1, .invokevirtual 256, .ifCond .eq 11, .aload 0, .iload 2, .invokevirtual 254, .ifCond .eq 11, .iload 3, .invokestatic 297, .ifCond .ne 15, .aload 0, .iconst 1, .invokevirtual 200, .ireturn, .aload 0, .iconst 2640, .invokevirtual 295, .aload 0, .iload 3, .invokevirtual 279, .pop, .aload 0, .iload 1, .iconst 3, .iload 2, .iadd, .invokevirtual 261, .istore 4, .aload 0, .iconst 2640, .invokevirtual 296, .aload 0, .iload 4, .invokevirtual 201, .ireturn]
/- BeastCaveModel.whoIn(II)I -/
def bc_c299 : List Instr := [.aload 0, .iload 1, .invokevirtual 256, .ifCond .eq 7, .iload 2, .invokestatic 297, .ifCond .ne 11, .aload 0, .iconst 1, .invokevirtual 200, .ireturn, .aload 0, .iconst 2640, .invokevirtual 295, .aload 0, .iload 2, .invokevirtual 279, .pop, .aload 0, .iload 1, .invokevirtual 267, .istore 3, .aload 0, .iconst 2640, .invokevirtual 296, .aload 0, .iload 3, .invokevirtual 202, .ireturn]
/- BeastCaveModel.turnIn(I)I -/
def bc_c300 : List Instr := [.aload 0, .iload 1, .invokevirtual 256, .ifCond .ne 8, .aload 0, .iconst 1, .invokevirtual 200, .ireturn, .aload 0, .iconst 2640, .invokevirtual 295, .iconst 0, .istore 2, .iload 2, .iconst 200, .if_icmp .ge 25, .aload 0, .iload 1, .invokevirtual 266, .ifCond .ne 25, .aload 0, .invokevirtual 278, .pop, .iinc 2 (1), .goto 13, .aload 0, .iload 1, .invokevirtual 266, .istore 3, .aload 0, .iconst 2640, .invokevirtual 296, .iload 3, .ifCond .eq 38, .aload 0, .iload 2, .invokevirtual 201, .goto 41, .aload 0, .iconst 6, .invokevirtual 200, .ireturn]
/- BeastCaveModel.freeIn()I -/
def bc_c301 : List Instr := [.aload 0, .iconst 2640, .invokevirtual 295, .iconst 0, .istore 1, .iload 1, .iconst 200, .if_icmp .ge 17, .aload 0, .iconst 0, .invokevirtual 269, .ifCond .eq 17, .aload 0, .invokevirtual 278, .pop, .iinc 1 (1), .goto 5, .aload 0, .iconst 0, .invokevirtual 269, .ifCond .ne 23, .iconst 1, .goto 24, .iconst 0, .istore 2, .aload 0, .iconst 2640, .invokevirtual 296, .iload 2, .ifCond .eq 34, .aload 0, .iload 1, .invokevirtual 201, .goto 37, .aload 0, .iconst 6, .invokevirtual 200, .ireturn]
/- BeastCaveModel.safe(II)I -/
def bc_c302 : List Instr := [.aload 0, .iload 1, .invokevirtual 256, .ifCond .eq 8, .aload 0, .iload 2, .invokevirtual 255, .ifCond .ne 12, .aload 0, .iconst 1, .invokevirtual 200, .ireturn, .aload 0, .iload 2, .iconst 0, .invokevirtual 260, .iconst (-1), .if_icmp .ne 22, .aload 0, .iconst 6, .invokevirtual 200, .ireturn, .aload 0, .iload 1, .invokevirtual 266, .ifCond .eq 30, .aload 0, .iconst 0, .invokevirtual 201, .ireturn, .aload 0, .aload 0, .iload 1, .iconst 0, .invokevirtual 261, .aload 0, .iload 1, .iconst 3, .aload 0, .iload 2, .iconst 0, .invokevirtual 260, .iadd, .invokevirtual 261, .isub, .aload 0, .iload 2, .iconst 1, .invokevirtual 260, .idiv, .invokevirtual 201, .ireturn]
/- BeastCaveModel.laysFar()V -/
def bc_c303 : List Instr := [.aload 0, .getfield 768, .iconst 1, .iaload, .istore 1, .iconst 0, .istore 2, .iload 2, .iload 1, .if_icmp .ge 36, .iconst 0, .istore 3, .iload 3, .iload 1, .if_icmp .ge 34, .aload 0, .getfield 792, .iconst 7, .iload 2, .imul, .iload 3, .iadd, .iload 2, .iload 3, .if_icmp .ne 27, .iconst 0, .goto 31, .aload 0, .iload 2, .iload 3, .invokevirtual 281, .iastore, .iinc 3 (1), .goto 12, .iinc 2 (1), .goto 7, .iconst 0, .istore 2, .iload 2, .iload 1, .if_icmp .ge 91, .iconst 0, .istore 3, .iload 3, .iload 1, .if_icmp .ge 89, .iconst 0, .istore 4, .iload 4, .iload 1, .if_icmp .ge 87, .aload 0, .getfield 792, .iconst 7, .iload 3, .imul, .iload 4, .iadd, .aload 0, .getfield 792, .iconst 7, .iload 3, .imul, .iload 4, .iadd, .iaload, .aload 0, .getfield 792, .iconst 7, .iload 3, .imul, .iload 2, .iadd, .iaload, .aload 0, .getfield 792, .iconst 7, .iload 2, .imul, .iload 4, .iadd, .iaload, .iadd, .ret 6, .iastore, .iinc 4 (1), .goto 48, .iinc 3 (1), .goto 43, .iinc 2 (1), .goto 38, .return_]
/- BeastCaveModel.far(II)I -/
def bc_c304 : List Instr := [.aload 0, .iload 1, .invokevirtual 255, .ifCond .eq 8, .aload 0, .iload 2, .invokevirtual 255, .ifCond .ne 12, .aload 0, .iconst 1, .invokevirtual 200, .ireturn, .aload 0, .invokevirtual 303, .aload 0, .getfield 792, .iconst 7, .iload 1, .imul, .iload 2, .iadd, .iaload, .istore 3, .iload 3, .iconst 1000000, .if_icmp .lt 30, .aload 0, .iconst 6, .invokevirtual 200, .goto 33, .aload 0, .iload 3, .invokevirtual 201, .ireturn]
/- BeastCaveModel.near(I)I -/
def bc_c305 : List Instr := [.aload 0, .iload 1, .invokevirtual 255, .ifCond .ne 8, .aload 0, .iconst 1, .invokevirtual 200, .ireturn, .iconst 0, .istore 2, .iconst 0, .istore 3, .iload 3, .aload 0, .getfield 768, .iconst 1, .iaload, .if_icmp .ge 35, .iload 3, .iload 1, .if_icmp .eq 33, .aload 0, .iload 1, .iload 3, .invokevirtual 281, .iconst 1000000, .if_icmp .ge 33, .iload 2, .iconst 1, .iload 3, .ishl, .ior, .istore 2, .iinc 3 (1), .goto 12, .aload 0, .iload 2, .invokevirtual 201, .ireturn]
/- BeastCaveModel.visits(III)Z -/
def bc_c306 : List Instr := [.aload 0, .getfield 792, .iconst 7, .aload 0, .iload 1, .iconst 1, .invokevirtual 261, .imul, .iload 2, .iadd, .iaload, .istore 4, .iload 4, .iconst 1000000, .if_icmp .lt 17, .iconst 0, .ireturn, .iconst 0, .istore 5, .iload 5, .iload 4, .if_icmp .ge 28, .aload 0, .iload 1, .iconst (-1), .invokevirtual 277, .iinc 5 (1), .goto 19, .aload 0, .getfield 768, .iload 1, .invokestatic 231, .iconst 1, .iadd, .iload 2, .iastore, .iconst 0, .istore 5, .iload 5, .iload 3, .if_icmp .ge 53, .aload 0, .iload 1, .iload 2, .invokevirtual 277, .aload 0, .iload 1, .invokevirtual 266, .ifCond .eq 51, .iconst 0, .ireturn, .iinc 5 (1), .goto 38, .iconst 1, .ireturn]
/- BeastCaveModel.isTried(I)Z -/
def bc_c307 : List Instr := [.iconst 0, .istore 2, .iload 2, .iload 1, .if_icmp .ge 18, .aload 0, .getfield 793, .iload 2, .iaload, .aload 0, .getfield 793, .iload 1, .iaload, .if_icmp .ne 16, .iconst 1, .ireturn, .iinc 2 (1), .goto 2, .iconst 0, .ireturn]
/- BeastCaveModel.laysTour(III)V -/
def bc_c308 : List Instr := [.iload 2, .invokestatic 259, .istore 4, .iconst 0, .istore 5, .aload 0, .invokevirtual 303, .aload 0, .iload 4, .ifCond .ne 12, .iconst 0, .goto 13, .iconst (-1), .putfield 796, .aload 0, .iconst 0, .invokestatic 294, .invokevirtual 295, .aload 0, .getfield 793, .iconst 0, .iconst (-1), .iastore, .aload 0, .getfield 794, .iconst 0, .iconst 0, .iastore, .iload 5, .ifCond .lt 141, .iload 4, .ifCond .le 141, .aload 0, .iload 5, .invokestatic 294, .invokevirtual 296, .aload 0, .getfield 793, .iload 5, .dup2, .iaload, .iconst 1, .iadd, .iastore, .aload 0, .getfield 793, .iload 5, .iaload, .istore 6, .iload 6, .aload 0, .getfield 768, .iconst 1, .iaload, .if_icmp .ne 57, .iinc 5 (-1), .goto 28, .aload 0, .iload 2, .iload 6, .invokevirtual 258, .ifCond .eq 28, .aload 0, .iload 5, .invokevirtual 307, .ifCond .eq 67, .goto 28, .aload 0, .getfield 794, .iload 5, .iaload, .aload 0, .getfield 792, .iconst 7, .aload 0, .iload 1, .iconst 1, .invokevirtual 261, .imul, .iload 6, .iadd, .iaload, .iadd, .iload 3, .iadd, .istore 7, .aload 0, .iload 1, .iload 6, .iload 3, .invokevirtual 306, .ifCond .ne 93, .goto 28, .iload 5, .iconst 1, .iadd, .iload 4, .if_icmp .ge 114, .iinc 5 (1), .aload 0, .iload 5, .invokestatic 294, .invokevirtual 295, .aload 0, .getfield 793, .iload 5, .iconst (-1), .iastore, .aload 0, .getfield 794, .iload 5, .iload 7, .iastore, .goto 140, .aload 0, .getfield 796, .iconst (-1), .if_icmp .eq 122, .iload 7, .aload 0, .getfield 796, .if_icmp .ge 140, .aload 0, .iload 7, .putfield 796, .iconst 0, .istore 8, .iload 8, .iload 4, .if_icmp .ge 140, .aload 0, .getfield 795, .iload 8, .aload 0, .getfield 793, .iload 8, .iaload, .iastore, .iinc 8 (1), .goto 127, .goto 28, .aload 0, .iconst 0, .invokestatic 294, .invokevirtual 296, .return_]
/- BeastCaveModel.wrongTour(III)I -/
def bc_c309 : List Instr := [.aload 0, .iload 1, .invokevirtual 256, .ifCond .eq 27, .iload 2, .i2l, .sipush 0, .sipush 1, .aload 0, .getfield 768, .iconst 1, .iaload, .lshl, .sipush 1, .lsub, .invokestatic 211, .ifCond .eq 27, .iload 2, .invokestatic 259, .iconst 5, .if_icmp .gt 27, .iload 3, .i2l, .sipush 1, .sipush 9, .invokestatic 211, .ifCond .ne 29, .iconst 1, .ireturn, .aload 0, .iload 1, .invokevirtual 266, .ifCond .ne 38, .aload 0, .iload 1, .iconst 2, .invokevirtual 261, .ifCond .le 40, .iconst 7, .goto 41, .iconst 0, .ireturn]
/- BeastCaveModel.tour(III)I -/
def bc_c310 : List Instr := [.aload 0, .iload 1, .iload 2, .iload 3, .invokevirtual 309, .istore 4, .iload 4, .ifCond .le 12, .aload 0, .iload 4, .invokevirtual 200, .ireturn, .aload 0, .iload 1, .iload 2, .iload 3, .invokevirtual 308, .aload 0, .aload 0, .getfield 796, .invokevirtual 202, .ireturn]
/- BeastCaveModel.tourAt(IIII)I -/
def bc_c311 : List Instr := [.iload 4, .ifCond .ge 4, .iconst 1, .goto 9, .aload 0, .iload 1, .iload 2, .iload 3, .invokevirtual 309, .istore 5, .iload 5, .ifCond .le 16, .aload 0, .iload 5, .invokevirtual 200, .ireturn, .aload 0, .iload 1, .iload 2, .iload 3, .invokevirtual 308, .aload 0, .getfield 796, .iconst (-1), .if_icmp .eq 29, .iload 4, .iload 2, .invokestatic 259, .if_icmp .lt 33, .aload 0, .iconst 6, .invokevirtual 200, .goto 39, .aload 0, .aload 0, .getfield 795, .iload 4, .iaload, .invokevirtual 201, .ireturn]
/- BeastCaveModel.mayCome(II)Z -/
def bc_c312 : List Instr := [.aload 0, .iload 2, .iload 1, .invokevirtual 258, .ifCond .ne 16, .aload 0, .iload 1, .iconst 3, .invokevirtual 262, .iload 2, .iconst (-1), .ixor, .iand, .ifCond .ne 16, .iconst 1, .goto 17, .iconst 0, .ireturn]
/- BeastCaveModel.laysLayers()I -/
def bc_c313 : List Instr := [.iconst 1, .aload 0, .getfield 768, .iconst 3, .iaload, .ishl, .iconst 1, .isub, .istore 1, .iload 1, .istore 2, .iload 2, .ifCond .lt 55, .aload 0, .getfield 797, .iload 2, .iload 2, .iload 1, .if_icmp .ne 21, .iconst 1, .goto 22, .iconst 0, .iastore, .iconst 0, .istore 3, .iload 3, .aload 0, .getfield 768, .iconst 3, .iaload, .if_icmp .ge 53, .aload 0, .iload 3, .iload 2, .invokevirtual 312, .ifCond .eq 51, .aload 0, .getfield 797, .iload 2, .dup2, .iaload, .aload 0, .getfield 797, .iload 2, .iconst 1, .iload 3, .ishl, .ior, .iaload, .iadd, .iastore, .iinc 3 (1), .goto 25, .iinc 2 (-1), .goto 11, .aload 0, .getfield 797, .iconst 0, .iaload, .ireturn]
/- BeastCaveModel.layers()I -/
def bc_c314 : List Instr := [.aload 0, .aload 0, .invokevirtual 313, .invokevirtual 201, .ireturn]
/- BeastCaveModel.layerAt(I)I -/
def bc_c315 : List Instr := [.iload 1, .ifCond .ge 6, .aload 0, .iconst 1, .invokevirtual 200, .ireturn, .aload 0, .invokevirtual 313, .ifCond .eq 15, .iload 1, .aload 0, .getfield 768, .iconst 3, .iaload, .if_icmp .lt 19, .aload 0, .iconst 6, .invokevirtual 200, .ireturn, .iconst 0, .istore 2, .iconst (-1), .istore 3, .iconst 0, .istore 4, .iload 4, .iload 1, .if_icmp .gt 54, .iconst 0, .istore 3, .aload 0, .iload 3, .iload 2, .invokevirtual 312, .ifCond .eq 44, .aload 0, .getfield 797, .iload 2, .iconst 1, .iload 3, .ishl, .ior, .iaload, .ifCond .ne 46, .iinc 3 (1), .goto 30, .iload 2, .iconst 1, .iload 3, .ishl, .ior, .istore 2, .iinc 4 (1), .goto 25, .aload 0, .iload 3, .invokevirtual 201, .ireturn]
/- BeastCaveModel.low(I)I -/
def bc_c316 : List Instr := [.aload 0, .iload 1, .invokevirtual 257, .ifCond .ne 8, .aload 0, .iconst 1, .invokevirtual 200, .ireturn, .aload 0, .invokevirtual 313, .ifCond .ne 15, .aload 0, .iconst 6, .invokevirtual 200, .ireturn, .aload 0, .iload 1, .iconst 3, .invokevirtual 262, .istore 2, .iconst 0, .istore 3, .iload 3, .iconst 8, .if_icmp .ge 49, .iconst 0, .istore 4, .iload 4, .aload 0, .getfield 768, .iconst 3, .iaload, .if_icmp .ge 47, .aload 0, .iload 2, .iload 4, .invokevirtual 258, .ifCond .eq 45, .iload 2, .aload 0, .iload 4, .iconst 3, .invokevirtual 262, .ior, .istore 2, .iinc 4 (1), .goto 27, .iinc 3 (1), .goto 22, .aload 0, .iload 2, .invokestatic 259, .invokevirtual 201, .ireturn]
/- BeastCaveModel.differ(II)I -/
def bc_c317 : List Instr := [.aload 0, .iload 1, .iconst 1, .invokevirtual 262, .aload 0, .iload 2, .iconst 1, .invokevirtual 262, .isub, .istore 3, .aload 0, .iload 1, .iconst 2, .invokevirtual 262, .aload 0, .iload 2, .iconst 2, .invokevirtual 262, .isub, .istore 4, .iload 3, .iload 3, .ineg, .ret 5, .iload 4, .iload 4, .ineg, .ret 5, .iadd, .ireturn]
/- BeastCaveModel.isHand(II)Z -/
def bc_c318 : List Instr := [.iconst 0, .istore 3, .iload 3, .aload 0, .getfield 768, .iconst 3, .iaload, .if_icmp .ge 40, .iload 3, .iconst 1, .iadd, .istore 4, .iload 4, .aload 0, .getfield 768, .iconst 3, .iaload, .if_icmp .ge 38, .aload 0, .iload 1, .iload 3, .invokevirtual 258, .ifCond .eq 36, .aload 0, .iload 1, .iload 4, .invokevirtual 258, .ifCond .eq 36, .aload 0, .iload 3, .iload 4, .invokevirtual 317, .iload 2, .if_icmp .le 36, .iconst 0, .ireturn, .iinc 4 (1), .goto 12, .iinc 3 (1), .goto 2, .iconst 1, .ireturn]
/- BeastCaveModel.hands(I)I -/
def bc_c319 : List Instr := [.iload 1, .i2l, .sipush 0, .sipush 18, .invokestatic 211, .ifCond .ne 10, .aload 0, .iconst 1, .invokevirtual 200, .ireturn, .iconst 1, .aload 0, .getfield 768, .iconst 3, .iaload, .ishl, .iconst 1, .isub, .istore 2, .aload 0, .getfield 798, .iconst 0, .iconst 0, .iastore, .iconst 1, .istore 3, .iload 3, .iload 2, .if_icmp .gt 81, .aload 0, .getfield 798, .iload 3, .iconst 1000000, .iastore, .iload 3, .istore 4, .iload 4, .ifCond .le 79, .aload 0, .getfield 798, .iload 3, .iload 4, .iconst (-1), .ixor, .iand, .iaload, .iconst 1, .iadd, .aload 0, .getfield 798, .iload 3, .iaload, .if_icmp .ge 72, .aload 0, .iload 4, .iload 1, .invokevirtual 318, .ifCond .eq 72, .aload 0, .getfield 798, .iload 3, .aload 0, .getfield 798, .iload 3, .iload 4, .iconst (-1), .ixor, .iand, .iaload, .iconst 1, .iadd, .iastore, .iload 4, .iconst 1, .isub, .iload 3, .iand, .istore 4, .goto 36, .iinc 3 (1), .goto 26, .aload 0, .aload 0, .getfield 798, .iload 2, .iaload, .invokevirtual 201, .ireturn]
/- BeastCaveModel.hand(I)I -/
def bc_c320 : List Instr := [.iload 1, .i2l, .sipush 0, .sipush 18, .invokestatic 211, .ifCond .ne 10, .aload 0, .iconst 1, .invokevirtual 200, .ireturn, .iconst 0, .istore 2, .iconst 1, .istore 3, .iload 3, .iconst 1, .aload 0, .getfield 768, .iconst 3, .iaload, .ishl, .if_icmp .ge 36, .iload 3, .invokestatic 259, .iload 2, .invokestatic 259, .if_icmp .le 34, .aload 0, .iload 3, .iload 1, .invokevirtual 318, .ifCond .eq 34, .iload 3, .istore 2, .iinc 3 (1), .goto 14, .aload 0, .iload 2, .invokevirtual 201, .ireturn]
/- BeastCaveModel.laysRows(I)V -/
def bc_c321 : List Instr := [.iconst 0, .istore 2, .iload 2, .iconst 5, .if_icmp .ge 20, .aload 0, .getfield 799, .iload 2, .iload 2, .aload 0, .getfield 768, .iconst 0, .iaload, .if_icmp .ge 16, .sipush 1, .goto 17, .sipush 0, .lastore, .iinc 2 (1), .goto 2, .iconst 1, .istore 2, .iload 2, .iload 1, .if_icmp .ge 88, .iconst 0, .istore 3, .iload 3, .aload 0, .getfield 768, .iconst 0, .iaload, .if_icmp .ge 68, .aload 0, .getfield 800, .iload 3, .sipush 0, .lastore, .iconst 0, .istore 4, .iload 4, .aload 0, .getfield 768, .iconst 0, .iaload, .if_icmp .ge 66, .aload 0, .getfield 800, .iload 3, .dup2, .laload, .aload 0, .iload 4, .iload 3, .invokevirtual 263, .ifCond .le 61, .aload 0, .getfield 799, .iload 4, .laload, .goto 62, .sipush 0, .ladd, .lastore, .iinc 4 (1), .goto 40, .iinc 3 (1), .goto 27, .iconst 0, .istore 3, .iload 3, .aload 0, .getfield 768, .iconst 0, .iaload, .if_icmp .ge 86, .aload 0, .getfield 799, .iload 3, .aload 0, .getfield 800, .iload 3, .laload, .lastore, .iinc 3 (1), .goto 70, .iinc 2 (1), .goto 22, .return_]
/- BeastCaveModel.rows(I)J -/
def bc_c322 : List Instr := [.iload 1, .i2l, .sipush 1, .sipush 12, .invokestatic 211, .ifCond .ne 11, .aload 0, .iconst 1, .invokevirtual 200, .i2l, .lreturn, .aload 0, .iload 1, .invokevirtual 321, .sipush 0, .lstore 2, .iconst 0, .istore 4, .iload 4, .iconst 5, .if_icmp .ge 30, .lload 2, .aload 0, .getfield 799, .iload 4, .laload, .ladd, .lstore 2, .iinc 4 (1), .goto 18, .aload 0, .iconst 0, .putfield 770, .lload 2, .lreturn]
/- BeastCaveModel.rowsTo(II)J -/
def bc_c323 : List Instr := [.iload 1, .i2l, .sipush 1, .sipush 12, .invokestatic 211, .ifCond .eq 10, .aload 0, .iload 2, .invokevirtual 254, .ifCond .ne 15, .aload 0, .iconst 1, .invokevirtual 200, .i2l, .lreturn, .aload 0, .iload 1, .invokevirtual 321, .aload 0, .iconst 0, .putfield 770, .aload 0, .getfield 799, .iload 2, .laload, .lreturn]
/- BeastCaveModel.laysLikeliest(I)I -/
def bc_c324 : List Instr := [.iconst 0, .istore 2, .iload 2, .aload 0, .getfield 768, .iconst 0, .iaload, .if_icmp .ge 17, .aload 0, .getfield 801, .iconst 5, .iload 2, .iadd, .iconst 1, .iastore, .iinc 2 (1), .goto 2, .iconst 2, .istore 2, .iload 2, .iload 1, .if_icmp .gt 85, .iconst 0, .istore 3, .iload 3, .aload 0, .getfield 768, .iconst 0, .iaload, .if_icmp .ge 83, .aload 0, .getfield 801, .iconst 5, .iload 2, .imul, .iload 3, .iadd, .iconst 0, .iastore, .iconst 0, .istore 4, .iload 4, .aload 0, .getfield 768, .iconst 0, .iaload, .if_icmp .ge 81, .aload 0, .getfield 801, .iconst 5, .iload 2, .imul, .iload 3, .iadd, .aload 0, .getfield 801, .iconst 5, .iload 2, .imul, .iload 3, .iadd, .iaload, .aload 0, .iload 3, .iload 4, .invokevirtual 263, .aload 0, .getfield 801, .iconst 5, .iload 2, .iconst 1, .isub, .imul, .iload 4, .iadd, .iaload, .imul, .ret 5, .iastore, .iinc 4 (1), .goto 41, .iinc 3 (1), .goto 24, .iinc 2 (1), .goto 19, .iconst (-1), .istore 2, .iconst 0, .istore 3, .iconst 0, .istore 4, .iload 4, .aload 0, .getfield 768, .iconst 0, .iaload, .if_icmp .ge 121, .aload 0, .getfield 801, .iconst 5, .iload 1, .imul, .iload 4, .iadd, .iaload, .iload 3, .if_icmp .gt 108, .goto 119, .aload 0, .getfield 801, .iconst 5, .iload 1, .imul, .iload 4, .iadd, .iaload, .istore 3, .iload 4, .istore 2, .iinc 4 (1), .goto 91, .iload 2, .ireturn]
/- BeastCaveModel.likeliest(I)I -/
def bc_c325 : List Instr := [.iload 1, .i2l, .sipush 1, .sipush 8, .invokestatic 211, .ifCond .ne 10, .aload 0, .iconst 1, .invokevirtual 200, .ireturn, .aload 0, .iload 1, .invokevirtual 324, .istore 2, .iload 2, .iconst (-1), .if_icmp .ne 21, .aload 0, .iconst 6, .invokevirtual 200, .goto 31, .aload 0, .aload 0, .getfield 801, .iconst 5, .iload 1, .imul, .iload 2, .iadd, .iaload, .invokevirtual 201, .ireturn]
/- BeastCaveModel.likeliestAt(II)I -/
def bc_c326 : List Instr := [.iload 1, .i2l, .sipush 1, .sipush 8, .invokestatic 211, .ifCond .eq 8, .iload 2, .ifCond .ge 12, .aload 0, .iconst 1, .invokevirtual 200, .ireturn, .aload 0, .iload 1, .invokevirtual 324, .istore 3, .iload 3, .iconst (-1), .if_icmp .eq 22, .iload 2, .iload 1, .if_icmp .lt 26, .aload 0, .iconst 6, .invokevirtual 200, .ireturn, .iconst 0, .istore 4, .iload 4, .iload 2, .if_icmp .ge 67, .iconst 0, .istore 5, .aload 0, .iload 3, .iload 5, .invokevirtual 263, .aload 0, .getfield 801, .iconst 5, .iload 1, .iload 4, .isub, .iconst 1, .isub, .imul, .iload 5, .iadd, .iaload, .imul, .aload 0, .getfield 801, .iconst 5, .iload 1, .iload 4, .isub, .imul, .iload 3, .iadd, .iaload, .if_icmp .eq 63, .iinc 5 (1), .goto 33, .iload 5, .istore 3, .iinc 4 (1), .goto 28, .aload 0, .iload 3, .invokevirtual 201, .ireturn]
/- BeastCaveModel.wrongSeen(III)I -/
def bc_c327 : List Instr := [.aload 0, .iload 1, .invokevirtual 256, .ifCond .eq 13, .iload 2, .invokestatic 204, .ifCond .eq 13, .iload 3, .i2l, .sipush 0, .sipush 20, .invokestatic 211, .ifCond .ne 15, .iconst 1, .ireturn, .aload 0, .getfield 774, .iload 2, .iaload, .iconst (-1), .if_icmp .ne 23, .iconst 2, .ireturn, .aload 0, .getfield 774, .iload 2, .iaload, .iconst 2, .iload 3, .imul, .if_icmp .ge 33, .iconst 3, .ireturn, .iconst 0, .istore 4, .iload 4, .iload 3, .if_icmp .ge 72, .iconst 60, .iload 2, .imul, .iconst 2, .iload 4, .imul, .iadd, .istore 5, .aload 0, .getfield 775, .iload 5, .laload, .sipush 0, .sipush 200, .invokestatic 211, .ifCond .eq 68, .aload 0, .getfield 775, .iload 5, .iconst 1, .iadd, .laload, .sipush 0, .aload 0, .getfield 768, .iconst 0, .iaload, .i2l, .invokestatic 211, .ifCond .ne 70, .iconst 5, .ireturn, .iinc 4 (1), .goto 35, .iconst 0, .ireturn]
/- BeastCaveModel.wouldBe(II)I -/
def bc_c328 : List Instr := [.aload 0, .getfield 802, .iload 2, .iaload, .iload 1, .if_icmp .le 11, .aload 0, .getfield 803, .iload 2, .iaload, .goto 15, .aload 0, .getfield 768, .iconst 0, .iaload, .ireturn]
/- BeastCaveModel.laysFits(III)V -/
def bc_c329 : List Instr := [.aload 0, .iconst 2640, .invokevirtual 295, .iconst 0, .istore 4, .iload 4, .iconst 200, .if_icmp .gt 27, .aload 0, .getfield 802, .iload 4, .aload 0, .iload 1, .invokevirtual 265, .iastore, .aload 0, .getfield 803, .iload 4, .aload 0, .iload 1, .invokevirtual 264, .iastore, .aload 0, .invokevirtual 278, .pop, .iinc 4 (1), .goto 5, .aload 0, .iconst 2640, .invokevirtual 296, .aload 0, .iconst 0, .putfield 805, .iconst 1, .istore 4, .iload 4, .iconst 60, .if_icmp .gt 95, .aload 0, .getfield 804, .iload 4, .iconst 1, .bastore, .iconst 0, .istore 5, .iload 5, .iload 3, .if_icmp .ge 80, .iconst 60, .iload 2, .imul, .iconst 2, .iload 5, .imul, .iadd, .istore 6, .aload 0, .iload 4, .aload 0, .getfield 775, .iload 6, .laload, .l2i, .invokevirtual 328, .i2l, .aload 0, .getfield 775, .iload 6, .iconst 1, .iadd, .laload, .lcmp, .ifCond .eq 78, .aload 0, .getfield 804, .iload 4, .iconst 0, .bastore, .iinc 5 (1), .goto 45, .aload 0, .dup, .getfield 805, .aload 0, .getfield 804, .iload 4, .baload, .ifCond .eq 90, .iconst 1, .goto 91, .iconst 0, .iadd, .putfield 805, .iinc 4 (1), .goto 35, .return_]
/- BeastCaveModel.fits(III)I -/
def bc_c330 : List Instr := [.aload 0, .iload 1, .iload 2, .iload 3, .invokevirtual 327, .istore 4, .iload 4, .ifCond .le 12, .aload 0, .iload 4, .invokevirtual 200, .ireturn, .aload 0, .iload 1, .iload 2, .iload 3, .invokevirtual 329, .aload 0, .aload 0, .getfield 805, .invokevirtual 201, .ireturn]
/- BeastCaveModel.fitsAt(IIII)I -/
def bc_c331 : List Instr := [.iload 4, .ifCond .lt 5, .iload 4, .iconst 1, .if_icmp .le 7, .iconst 1, .goto 12, .aload 0, .iload 1, .iload 2, .iload 3, .invokevirtual 327, .istore 5, .iload 5, .ifCond .le 19, .aload 0, .iload 5, .invokevirtual 200, .ireturn, .aload 0, .iload 1, .iload 2, .iload 3, .invokevirtual 329, .aload 0, .getfield 805, .ifCond .ne 31, .aload 0, .iconst 6, .invokevirtual 200, .ireturn, .iload 4, .ifCond .ne 35, .iconst 1, .goto 36, .iconst 60, .istore 6, .aload 0, .getfield 804, .iload 6, .baload, .ifCond .ne 51, .iload 6, .iload 4, .ifCond .ne 47, .iconst 1, .goto 48, .iconst (-1), .iadd, .istore 6, .goto 37, .aload 0, .iload 6, .invokevirtual 201, .ireturn]
/- BeastCaveModel.mostAlike(I)I -/
def bc_c332 : List Instr := [.iconst 0, .istore 2, .iconst 0, .istore 3, .iload 3, .iconst 6, .if_icmp .ge 14, .aload 0, .getfield 806, .iload 3, .iconst 0, .iastore, .iinc 3 (1), .goto 4, .iconst 1, .istore 3, .iload 3, .iconst 60, .if_icmp .gt 47, .aload 0, .getfield 804, .iload 3, .baload, .ifCond .ne 25, .goto 45, .aload 0, .iload 3, .iload 1, .invokevirtual 328, .istore 4, .aload 0, .getfield 806, .iload 4, .dup2, .iaload, .iconst 1, .iadd, .iastore, .iload 2, .aload 0, .getfield 806, .iload 4, .iaload, .ret 5, .istore 2, .iinc 3 (1), .goto 16, .iload 2, .ireturn]
/- BeastCaveModel.ask(III)I -/
def bc_c333 : List Instr := [.aload 0, .iload 1, .iload 2, .iload 3, .invokevirtual 327, .istore 4, .iload 4, .ifCond .le 12, .aload 0, .iload 4, .invokevirtual 200, .ireturn, .aload 0, .iload 1, .iload 2, .iload 3, .invokevirtual 329, .aload 0, .getfield 805, .iconst 2, .if_icmp .ge 25, .aload 0, .iconst 6, .invokevirtual 200, .ireturn, .iconst 0, .istore 5, .iconst 1, .istore 6, .iload 6, .iconst 60, .if_icmp .gt 43, .aload 0, .iload 6, .invokevirtual 332, .aload 0, .iload 5, .invokevirtual 332, .if_icmp .ge 41, .iload 6, .istore 5, .iinc 6 (1), .goto 29, .aload 0, .iload 5, .invokevirtual 201, .ireturn]
/- BeastCaveModel.settles(II)V -/
def bc_c334 : List Instr := [.aload 0, .getfield 809, .iload 1, .iaload, .iconst (-1), .if_icmp .ne 8, .iconst 1, .goto 9, .iconst 0, .istore 3, .iload 3, .ifCond .ne 30, .iload 1, .iconst 2, .irem, .ifCond .ne 23, .iload 2, .aload 0, .getfield 808, .iload 1, .iaload, .if_icmp .gt 30, .goto 29, .iload 2, .aload 0, .getfield 808, .iload 1, .iaload, .if_icmp .lt 30, .return_, .aload 0, .getfield 808, .iload 1, .iload 2, .iastore, .aload 0, .getfield 809, .iload 1, .aload 0, .getfield 807, .iload 1, .iaload, .iastore, .return_]
/- BeastCaveModel.doesDeed(IIZ)Z -/
def bc_c335 : List Instr := [.iload 2, .aload 0, .getfield 768, .iconst 1, .iaload, .if_icmp .ne 8, .iconst 1, .ireturn, .iload 3, .ifCond .eq 15, .aload 0, .iload 1, .iload 2, .invokevirtual 282, .ireturn, .aload 0, .iload 2, .iconst 0, .invokevirtual 260, .iconst (-1), .if_icmp .ne 23, .iconst 0, .ireturn, .aload 0, .getfield 768, .iload 2, .invokestatic 230, .iconst 1, .iadd, .iconst 9, .aload 0, .iload 2, .iconst 1, .invokevirtual 260, .iconst 1, .iadd, .ret 6, .iastore, .iconst 1, .ireturn]
/- BeastCaveModel.standing(I)I -/
def bc_c336 : List Instr := [.aload 0, .iload 1, .iconst 0, .invokevirtual 261, .aload 0, .iload 1, .invokevirtual 265, .isub, .ireturn]
/- BeastCaveModel.playing(II)I -/
def bc_c337 : List Instr := [.iload 2, .ifCond .ne 6, .aload 0, .iload 1, .invokevirtual 336, .ireturn, .iconst 0, .istore 3, .aload 0, .iconst 0, .invokestatic 294, .invokevirtual 295, .aload 0, .getfield 807, .iconst 0, .iconst (-1), .iastore, .aload 0, .getfield 809, .iconst 0, .iconst (-1), .iastore, .aload 0, .iload 3, .invokestatic 294, .invokevirtual 296, .aload 0, .getfield 807, .iload 3, .dup2, .iaload, .iconst 1, .iadd, .iastore, .aload 0, .getfield 807, .iload 3, .iaload, .aload 0, .getfield 768, .iconst 1, .iaload, .if_icmp .le 57, .iload 3, .ifCond .ne 46, .goto 104, .iinc 3 (-1), .aload 0, .iload 3, .aload 0, .getfield 808, .iload 3, .iconst 1, .iadd, .iaload, .invokevirtual 334, .goto 22, .aload 0, .iload 1, .aload 0, .getfield 807, .iload 3, .iaload, .iload 3, .iconst 2, .irem, .ifCond .ne 69, .iconst 1, .goto 70, .iconst 0, .invokevirtual 335, .ifCond .ne 73, .goto 22, .aload 0, .invokevirtual 278, .pop, .iload 3, .iconst 1, .iadd, .iload 2, .if_icmp .ne 88, .aload 0, .iload 3, .aload 0, .iload 1, .invokevirtual 336, .invokevirtual 334, .goto 22, .iinc 3 (1), .aload 0, .iload 3, .invokestatic 294, .invokevirtual 295, .aload 0, .getfield 807, .iload 3, .iconst (-1), .iastore, .aload 0, .getfield 809, .iload 3, .iconst (-1), .iastore, .goto 22, .aload 0, .iconst 0, .invokestatic 294, .invokevirtual 296, .aload 0, .getfield 808, .iconst 0, .iaload, .ireturn]
/- BeastCaveModel.game(II)I -/
def bc_c338 : List Instr := [.aload 0, .iload 1, .invokevirtual 256, .ifCond .eq 17, .iload 2, .i2l, .sipush 0, .sipush 4, .invokestatic 211, .ifCond .eq 17, .aload 0, .aload 0, .iload 1, .iload 2, .invokevirtual 337, .invokevirtual 201, .goto 20, .aload 0, .iconst 1, .invokevirtual 200, .ireturn]
/- BeastCaveModel.moveOf(II)I -/
def bc_c339 : List Instr := [.aload 0, .iload 1, .invokevirtual 256, .ifCond .eq 10, .iload 2, .i2l, .sipush 1, .sipush 4, .invokestatic 211, .ifCond .ne 14, .aload 0, .iconst 1, .invokevirtual 200, .ireturn, .aload 0, .iload 1, .iload 2, .invokevirtual 337, .pop, .aload 0, .getfield 809, .iconst 0, .iaload, .aload 0, .getfield 768, .iconst 1, .iaload, .if_icmp .ne 32, .aload 0, .iconst 6, .invokevirtual 200, .goto 38, .aload 0, .aload 0, .getfield 809, .iconst 0, .iaload, .invokevirtual 201, .ireturn]
/- BeastCaveModel.flicker(II)Z -/
def bc_c340 : List Instr := [.iload 1, .i2l, .sipush 0, .sipush 12, .invokestatic 211, .ifCond .eq 12, .iload 2, .i2l, .sipush 0, .sipush 12, .invokestatic 211, .ifCond .ne 16, .aload 0, .iconst 1, .invokevirtual 199, .ireturn, .sipush 1, .lstore 3, .iconst 0, .istore 5, .iload 5, .iconst 13, .if_icmp .ge 34, .aload 0, .getfield 810, .iload 5, .iload 5, .ifCond .ne 30, .sipush 1, .goto 31, .sipush 0, .lastore, .iinc 5 (1), .goto 20, .iconst 0, .istore 5, .iload 5, .iload 1, .if_icmp .ge 84, .iconst 12, .istore 6, .iload 6, .ifCond .lt 78, .aload 0, .getfield 810, .iload 6, .aload 0, .getfield 810, .iload 6, .laload, .iconst 16, .aload 0, .getfield 768, .iconst 5, .iaload, .isub, .i2l, .lmul, .iload 6, .ifCond .ne 62, .sipush 0, .goto 74, .aload 0, .getfield 810, .iload 6, .iconst 1, .isub, .laload, .aload 0, .getfield 768, .iconst 5, .iaload, .i2l, .lmul, .ladd, .lastore, .iinc 6 (-1), .goto 41, .lload 3, .sipush 16, .lmul, .lstore 3, .iinc 5 (1), .goto 36, .sipush 0, .lstore 5, .iload 2, .istore 7, .iload 7, .iconst 13, .if_icmp .ge 100, .lload 5, .aload 0, .getfield 810, .iload 7, .laload, .ladd, .lstore 5, .iinc 7 (1), .goto 88, .aload 0, .lload 5, .lload 3, .invokevirtual 203, .ireturn]
/- BeastCaveModel.copyMost(I)I -/
def bc_c341 : List Instr := [.iload 1, .invokestatic 204, .ifCond .ne 7, .aload 0, .iconst 1, .invokevirtual 200, .ireturn, .aload 0, .getfield 774, .iload 1, .iaload, .iconst (-1), .if_icmp .ne 17, .aload 0, .iconst 2, .invokevirtual 200, .ireturn, .aload 0, .getfield 774, .iload 1, .iaload, .aload 0, .getfield 768, .iconst 2, .iaload, .if_icmp .ge 30, .aload 0, .iconst 3, .invokevirtual 200, .ireturn, .iconst 0, .istore 2, .iload 2, .aload 0, .getfield 768, .iconst 2, .iaload, .if_icmp .ge 57, .aload 0, .getfield 775, .iconst 60, .iload 1, .imul, .iload 2, .iadd, .aload 0, .iload 2, .invokevirtual 265, .i2l, .aload 0, .getfield 773, .iload 1, .iaload, .invokestatic 205, .lastore, .iinc 2 (1), .goto 32, .aload 0, .aload 0, .getfield 768, .iconst 2, .iaload, .invokevirtual 201, .ireturn]
/- BeastCaveModel.drawing(I)I -/
def bc_c342 : List Instr := [.aload 0, .aload 0, .getfield 811, .iconst 3191, .imul, .iconst 11423, .iadd, .iconst 65536, .irem, .putfield 811, .aload 0, .getfield 811, .iconst 8, .idiv, .iload 1, .irem, .ireturn]
/- BeastCaveModel.minutesBy(I)Z -/
def bc_c343 : List Instr := [.aload 0, .getfield 768, .iconst 6, .iaload, .iload 1, .iadd, .iconst 9999, .if_icmp .le 10, .iconst 0, .ireturn, .aload 0, .getfield 814, .iconst 3, .dup2, .iaload, .aload 0, .iload 1, .invokevirtual 279, .iadd, .iastore, .aload 0, .getfield 814, .iconst 1, .dup2, .iaload, .iload 1, .iadd, .iastore, .iconst 1, .ireturn]
/- BeastCaveModel.leadsBy(II)Z -/
def bc_c344 : List Instr := [.aload 0, .iload 1, .iload 2, .invokevirtual 282, .ifCond .ne 7, .iconst 0, .ireturn, .aload 0, .getfield 814, .iconst 2, .dup2, .iaload, .iconst 1, .iadd, .iastore, .iconst 1, .ireturn]
/- BeastCaveModel.leadsAny()Z -/
def bc_c345 : List Instr := [.aload 0, .getfield 768, .iconst 2, .iaload, .ifCond .ne 7, .iconst 0, .ireturn, .aload 0, .aload 0, .getfield 768, .iconst 2, .iaload, .invokevirtual 342, .istore 1, .aload 0, .iload 1, .aload 0, .aload 0, .getfield 768, .iconst 1, .iaload, .invokevirtual 342, .invokevirtual 344, .ireturn]
/- BeastCaveModel.does(I)Z -/
def bc_c346 : List Instr := [.aload 0, .getfield 768, .iload 1, .iconst 1, .iadd, .iaload, .istore 2, .aload 0, .getfield 768, .iload 1, .iaload, .lookupswitch 37 #[(16, 12), (17, 16), (18, 26), (19, 30), (20, 34)], .aload 0, .iload 2, .invokevirtual 343, .ireturn, .aload 0, .iload 2, .aload 0, .getfield 768, .iload 1, .iconst 2, .iadd, .iaload, .invokevirtual 344, .ireturn, .aload 0, .iload 2, .invokevirtual 284, .ireturn, .aload 0, .iload 2, .invokevirtual 286, .ireturn, .aload 0, .invokevirtual 345, .ireturn, .iconst 1, .ireturn]
/- BeastCaveModel.holds(I)Z -/
def bc_c347 : List Instr := [.aload 0, .getfield 768, .iload 1, .iaload, .iconst 2100, .isub, .istore 2, .aload 0, .getfield 768, .iload 1, .iconst 1, .iadd, .iaload, .istore 3, .iload 2, .iconst 26, .if_icmp .ne 26, .aload 0, .getfield 768, .iconst 4, .iaload, .ifCond .ne 24, .iconst 1, .goto 25, .iconst 0, .ireturn, .iload 2, .iconst 25, .if_icmp .ne 33, .aload 0, .iload 3, .invokevirtual 266, .ireturn, .iload 2, .iconst 13, .if_icmp .ne 51, .aload 0, .iload 3, .iconst 1, .invokevirtual 261, .aload 0, .getfield 768, .iload 1, .iconst 2, .iadd, .iaload, .if_icmp .ne 49, .iconst 1, .goto 50, .iconst 0, .ireturn, .aload 0, .iload 3, .invokevirtual 265, .istore 4, .aload 0, .getfield 768, .iload 1, .iconst 5, .iadd, .iaload, .iconst 60, .if_icmp .ne 75, .iload 4, .aload 0, .getfield 768, .iload 1, .iconst 2, .iadd, .iaload, .if_icmp .ge 73, .iconst 1, .goto 106, .iconst 0, .goto 106, .aload 0, .getfield 768, .iload 1, .iconst 5, .iadd, .iaload, .iconst 62, .if_icmp .ne 95, .iload 4, .aload 0, .getfield 768, .iload 1, .iconst 2, .iadd, .iaload, .if_icmp .le 93, .iconst 1, .goto 106, .iconst 0, .goto 106, .iload 4, .aload 0, .getfield 768, .iload 1, .iconst 2, .iadd, .iaload, .if_icmp .ne 105, .iconst 1, .goto 106, .iconst 0, .ireturn]
/- BeastCaveModel.behindEnds(I)I -/
def bc_c348 : List Instr := [.iload 1, .istore 2, .iload 2, .aload 0, .getfield 768, .iconst 8, .iaload, .if_icmp .ge 71, .aload 0, .getfield 768, .iconst 160, .iconst 6, .iload 2, .imul, .iadd, .iaload, .iconst 23, .if_icmp .ne 71, .aload 0, .getfield 768, .iconst 160, .iconst 6, .iload 2, .imul, .iadd, .iconst 4, .iadd, .iaload, .istore 3, .aload 0, .getfield 768, .iconst 160, .iconst 6, .iload 3, .imul, .iadd, .iaload, .iconst 22, .if_icmp .ne 46, .aload 0, .getfield 813, .iload 3, .iaload, .ifCond .le 46, .iconst 1, .goto 47, .iconst 0, .istore 4, .aload 0, .getfield 813, .iload 3, .dup2, .iaload, .iload 4, .ifCond .eq 57, .iconst 1, .goto 58, .iconst 0, .isub, .iastore, .iload 4, .ifCond .eq 66, .iload 3, .iconst 1, .iadd, .goto 69, .iload 2, .iconst 1, .iadd, .istore 2, .goto 2, .iload 2, .ireturn]
/- BeastCaveModel.lives(I)V -/
def bc_c349 : List Instr := [.aload 0, .iload 1, .putfield 811, .aload 0, .iconst 0, .putfield 812, .iconst 0, .istore 2, .iload 2, .iconst 5, .if_icmp .ge 18, .aload 0, .getfield 814, .iload 2, .iconst 0, .iastore, .iinc 2 (1), .goto 8, .iconst 0, .istore 2, .iload 2, .aload 0, .getfield 768, .iconst 8, .iaload, .if_icmp .ge 113, .aload 0, .getfield 812, .iconst 300, .if_icmp .ne 36, .aload 0, .getfield 814, .iconst 4, .iconst 1, .iastore, .return_, .iconst 160, .iconst 6, .iload 2, .imul, .iadd, .istore 3, .aload 0, .dup, .getfield 812, .iconst 1, .iadd, .putfield 812, .aload 0, .getfield 768, .iload 3, .iaload, .iconst 24, .if_icmp .ne 55, .return_, .aload 0, .getfield 814, .iconst 0, .dup2, .iaload, .aload 0, .iload 3, .invokevirtual 346, .ifCond .eq 66, .iconst 0, .goto 67, .iconst 1, .iadd, .iastore, .aload 0, .getfield 768, .iload 3, .iaload, .iconst 22, .if_icmp .ne 87, .aload 0, .getfield 813, .iload 2, .aload 0, .getfield 768, .iload 3, .iconst 1, .iadd, .iaload, .iconst 1, .isub, .iastore, .aload 0, .aload 0, .getfield 768, .iload 3, .iaload, .iconst 2100, .if_icmp .lt 107, .aload 0, .iload 3, .invokevirtual 347, .ifCond .ne 107, .aload 0, .getfield 768, .iload 3, .iconst 4, .iadd, .iaload, .iconst 1, .iadd, .goto 110, .iload 2, .iconst 1, .iadd, .invokevirtual 348, .istore 2, .goto 20, .return_]
/- BeastCaveModel.live(I)I -/
def bc_c350 : List Instr := [.iload 1, .i2l, .sipush 0, .sipush 9999, .invokestatic 211, .ifCond .ne 10, .aload 0, .iconst 1, .invokevirtual 200, .ireturn, .aload 0, .getfield 768, .iconst 8, .iaload, .iconst (-1), .if_icmp .ne 20, .aload 0, .iconst 6, .invokevirtual 200, .ireturn, .aload 0, .iload 1, .invokevirtual 349, .iconst 0, .istore 2, .iload 2, .iconst 5, .if_icmp .ge 38, .aload 0, .getfield 815, .iload 2, .aload 0, .getfield 814, .iload 2, .iaload, .iastore, .iinc 2 (1), .goto 25, .aload 0, .iconst 1, .putfield 816, .aload 0, .aload 0, .getfield 812, .invokevirtual 201, .ireturn]
/- BeastCaveModel.lived(I)I -/
def bc_c351 : List Instr := [.iload 1, .ifCond .lt 5, .iload 1, .iconst 4, .if_icmp .le 9, .aload 0, .iconst 1, .invokevirtual 200, .goto 22, .aload 0, .getfield 816, .ifCond .eq 19, .aload 0, .aload 0, .getfield 815, .iload 1, .iaload, .invokevirtual 201, .goto 22, .aload 0, .iconst 6, .invokevirtual 200, .ireturn]
/- BeastCaveModel.mean(II)Z -/
def bc_c352 : List Instr := [.iload 1, .i2l, .sipush 0, .sipush 9999, .invokestatic 211, .ifCond .eq 19, .iload 2, .i2l, .sipush 1, .sipush 20, .invokestatic 211, .ifCond .eq 19, .iload 1, .iload 2, .iadd, .iconst 1, .isub, .iconst 9999, .if_icmp .le 23, .aload 0, .iconst 1, .invokevirtual 199, .ireturn, .aload 0, .getfield 768, .iconst 8, .iaload, .iconst (-1), .if_icmp .ne 33, .aload 0, .iconst 6, .invokevirtual 199, .ireturn, .aload 0, .iconst 2640, .invokevirtual 295, .sipush 0, .lstore 3, .iconst 0, .istore 5, .iload 5, .iload 2, .if_icmp .ge 61, .aload 0, .iload 1, .iload 5, .iadd, .invokevirtual 349, .lload 3, .aload 0, .iconst 0, .invokevirtual 269, .invokestatic 259, .i2l, .ladd, .lstore 3, .aload 0, .iconst 2640, .invokevirtual 296, .iinc 5 (1), .goto 40, .aload 0, .lload 3, .iload 2, .i2l, .invokevirtual 203, .ireturn]
/- BeastCaveModel.copies(II)V -/
def bc_c353 : List Instr := [.iconst 0, .istore 3, .iload 3, .iconst 528, .if_icmp .ge 23, .aload 0, .getfield 768, .iconst 528, .iload 2, .imul, .iload 3, .iadd, .aload 0, .getfield 768, .iconst 528, .iload 1, .imul, .iload 3, .iadd, .iaload, .iastore, .iinc 3 (1), .goto 2, .iconst 0, .istore 3, .iload 3, .iconst 26, .if_icmp .ge 46, .aload 0, .getfield 769, .iconst 26, .iload 2, .imul, .iload 3, .iadd, .aload 0, .getfield 769, .iconst 26, .iload 1, .imul, .iload 3, .iadd, .laload, .lastore, .iinc 3 (1), .goto 25, .return_]
/- BeastCaveModel.mark()I -/
def bc_c354 : List Instr := [.aload 0, .getfield 817, .iconst 3, .if_icmp .ne 8, .aload 0, .iconst 4, .invokevirtual 200, .ireturn, .aload 0, .dup, .getfield 817, .iconst 1, .iadd, .putfield 817, .aload 0, .iconst 0, .aload 0, .getfield 817, .invokevirtual 353, .aload 0, .aload 0, .getfield 817, .invokevirtual 201, .ireturn]
/- BeastCaveModel.undo()I -/
def bc_c355 : List Instr := [.aload 0, .getfield 817, .ifCond .ne 7, .aload 0, .iconst 6, .invokevirtual 200, .ireturn, .aload 0, .aload 0, .getfield 817, .iconst 0, .invokevirtual 353, .aload 0, .dup, .getfield 817, .iconst 1, .isub, .putfield 817, .aload 0, .aload 0, .getfield 817, .invokevirtual 201, .ireturn]
/- java/lang/Integer.bitCount(I)I -/
def bc_c356 : List Instr := [.iload 0, .iload 0, .iconst 1, .iushr, .iconst 1431655765, .iand, .isub, .istore 0, .iload 0, .iconst 858993459, .iand, .iload 0, .iconst 2, .iushr, .iconst 858993459, .iand, .iadd, .istore 0, .iload 0, .iload 0, .iconst 4, .iushr, .iadd, .iconst 252645135, .iand, .istore 0, .iload 0, .iload 0, .iconst 8, .iushr, .iadd, .istore 0, .iload 0, .iload 0, .iconst 16, .iushr, .iadd, .istore 0, .iload 0, .iconst 63, .iand, .ireturn]
/- java/lang/Long.bitCount(J)I -/
def bc_c357 : List Instr := [.lload 0, .lload 0, .iconst 1, .lushr, .sipush 6148914691236517205, .land, .lsub, .lstore 0, .lload 0, .sipush 3689348814741910323, .land, .lload 0, .iconst 2, .lushr, .sipush 3689348814741910323, .land, .ladd, .lstore 0, .lload 0, .lload 0, .iconst 4, .lushr, .ladd, .sipush 1085102592571150095, .land, .lstore 0, .lload 0, .lload 0, .iconst 8, .lushr, .ladd, .lstore 0, .lload 0, .lload 0, .iconst 16, .lushr, .ladd, .lstore 0, .lload 0, .lload 0, .iconst 32, .lushr, .ladd, .lstore 0, .lload 0, .l2i, .iconst 127, .iand, .ireturn]
/- java/lang/Math.abs(I)I -/
def bc_c358 : List Instr := [.iload 0, .ifCond .ge 5, .iload 0, .ineg, .goto 6, .iload 0, .ireturn]
/- java/lang/Math.max(II)I -/
def bc_c359 : List Instr := [.iload 0, .iload 1, .if_icmp .lt 5, .iload 0, .goto 6, .iload 1, .ireturn]
/- java/lang/Math.min(II)I -/
def bc_c360 : List Instr := [.iload 0, .iload 1, .if_icmp .gt 5, .iload 0, .goto 6, .iload 1, .ireturn]
/- java/util/Arrays.fill([II)V -/
def bc_c361 : List Instr := [.iconst 0, .istore 2, .aload 0, .arraylength, .istore 3, .iload 2, .iload 3, .if_icmp .ge 14, .aload 0, .iload 2, .iload 1, .iastore, .iinc 2 (1), .goto 5, .return_]
def bc_CT : List (List (List Instr)) := [[bc_c0, bc_c1, bc_c2, bc_c3, bc_c4, bc_c5, bc_c6, bc_c7, bc_c8, bc_c9, bc_c10, bc_c11, bc_c12, bc_c13, bc_c14, bc_c15],
  [bc_c16, bc_c17, bc_c18, bc_c19, bc_c20, bc_c21, bc_c22, bc_c23, bc_c24, bc_c25, bc_c26, bc_c27, bc_c28, bc_c29, bc_c30, bc_c31],
  [bc_c32, bc_c33, bc_c34, bc_c35, bc_c36, bc_c37, bc_c38, bc_c39, bc_c40, bc_c41, bc_c42, bc_c43, bc_c44, bc_c45, bc_c46, bc_c47],
  [bc_c48, bc_c49, bc_c50, bc_c51, bc_c52, bc_c53, bc_c54, bc_c55, bc_c56, bc_c57, bc_c58, bc_c59, bc_c60, bc_c61, bc_c62, bc_c63],
  [bc_c64, bc_c65, bc_c66, bc_c67, bc_c68, bc_c69, bc_c70, bc_c71, bc_c72, bc_c73, bc_c74, bc_c75, bc_c76, bc_c77, bc_c78, bc_c79],
  [bc_c80, bc_c81, bc_c82, bc_c83, bc_c84, bc_c85, bc_c86, bc_c87, bc_c88, bc_c89, bc_c90, bc_c91, bc_c92, bc_c93, bc_c94, bc_c95],
  [bc_c96, bc_c97, bc_c98, bc_c99, bc_c100, bc_c101, bc_c102, bc_c103, bc_c104, bc_c105, bc_c106, bc_c107, bc_c108, bc_c109, bc_c110, bc_c111],
  [bc_c112, bc_c113, bc_c114, bc_c115, bc_c116, bc_c117, bc_c118, bc_c119, bc_c120, bc_c121, bc_c122, bc_c123, bc_c124, bc_c125, bc_c126, bc_c127],
  [bc_c128, bc_c129, bc_c130, bc_c131, bc_c132, bc_c133, bc_c134, bc_c135, bc_c136, bc_c137, bc_c138, bc_c139, bc_c140, bc_c141, bc_c142, bc_c143],
  [bc_c144, bc_c145, bc_c146, bc_c147, bc_c148, bc_c149, bc_c150, bc_c151, bc_c152, bc_c153, bc_c154, bc_c155, bc_c156, bc_c157, bc_c158, bc_c159],
  [bc_c160, bc_c161, bc_c162, bc_c163, bc_c164, bc_c165, bc_c166, bc_c167, bc_c168, bc_c169, bc_c170, bc_c171, bc_c172, bc_c173, bc_c174, bc_c175],
  [bc_c176, bc_c177, bc_c178, bc_c179, bc_c180, bc_c181, bc_c182, bc_c183, bc_c184, bc_c185, bc_c186, bc_c187, bc_c188, bc_c189, bc_c190, bc_c191],
  [bc_c192, bc_c193, bc_c194, bc_c195, bc_c196, bc_c197, bc_c198, bc_c199, bc_c200, bc_c201, bc_c202, bc_c203, bc_c204, bc_c205, bc_c206, bc_c207],
  [bc_c208, bc_c209, bc_c210, bc_c211, bc_c212, bc_c213, bc_c214, bc_c215, bc_c216, bc_c217, bc_c218, bc_c219, bc_c220, bc_c221, bc_c222, bc_c223],
  [bc_c224, bc_c225, bc_c226, bc_c227, bc_c228, bc_c229, bc_c230, bc_c231, bc_c232, bc_c233, bc_c234, bc_c235, bc_c236, bc_c237, bc_c238, bc_c239],
  [bc_c240, bc_c241, bc_c242, bc_c243, bc_c244, bc_c245, bc_c246, bc_c247, bc_c248, bc_c249, bc_c250, bc_c251, bc_c252, bc_c253, bc_c254, bc_c255],
  [bc_c256, bc_c257, bc_c258, bc_c259, bc_c260, bc_c261, bc_c262, bc_c263, bc_c264, bc_c265, bc_c266, bc_c267, bc_c268, bc_c269, bc_c270, bc_c271],
  [bc_c272, bc_c273, bc_c274, bc_c275, bc_c276, bc_c277, bc_c278, bc_c279, bc_c280, bc_c281, bc_c282, bc_c283, bc_c284, bc_c285, bc_c286, bc_c287],
  [bc_c288, bc_c289, bc_c290, bc_c291, bc_c292, bc_c293, bc_c294, bc_c295, bc_c296, bc_c297, bc_c298, bc_c299, bc_c300, bc_c301, bc_c302, bc_c303],
  [bc_c304, bc_c305, bc_c306, bc_c307, bc_c308, bc_c309, bc_c310, bc_c311, bc_c312, bc_c313, bc_c314, bc_c315, bc_c316, bc_c317, bc_c318, bc_c319],
  [bc_c320, bc_c321, bc_c322, bc_c323, bc_c324, bc_c325, bc_c326, bc_c327, bc_c328, bc_c329, bc_c330, bc_c331, bc_c332, bc_c333, bc_c334, bc_c335],
  [bc_c336, bc_c337, bc_c338, bc_c339, bc_c340, bc_c341, bc_c342, bc_c343, bc_c344, bc_c345, bc_c346, bc_c347, bc_c348, bc_c349, bc_c350, bc_c351],
  [bc_c352, bc_c353, bc_c354, bc_c355, bc_c356, bc_c357, bc_c358, bc_c359, bc_c360, bc_c361]]
def bc_code (k : Nat) : List Instr := bc_two bc_CT k []
end
section
/-- what is so from a point on: the least predicate of points that is closed under 'bc_seg' -/
def bc_F (ph : Bool) (P : bc_P) : bc_P := fun d k pc np ls st h nq Q => bc_seg ph P d k nq Q ((bc_code k).drop pc) np ls st h
def bc_OK (ph : Bool) : bc_P := fun d k pc np ls st h nq Q => ∀ P : bc_P, (∀ d k pc np ls st h nq Q, bc_F ph P d k pc np ls st h nq Q → P d k pc np ls st h nq Q) → P d k pc np ls st h nq Q
theorem bc_wp_mono {x : Option (bc_G × bc_L × bc_St × bc_H)} {K K' : bc_L → bc_St → bc_H → Prop} (hK : ∀ ls st h, K ls st h → K' ls st h) (hx : bc_wp x K) : bc_wp x K' := by
  unfold bc_wp at hx ⊢
  split at hx
  · exact hK _ _ _ hx
  · exact ⟨hx.1, hK _ _ _ hx.2⟩
  · exact hx
theorem bc_sw_mono {J J' : Nat → Prop} (hJ : ∀ t, J t → J' t) {x : Int} {d : Nat} : ∀ l, bc_sw J x d l → bc_sw J' x d l
  | [], h => hJ _ h
  | (v, t) :: l, h => ⟨fun e => hJ _ (h.1 e), fun e => bc_sw_mono hJ l (h.2 e)⟩
theorem bc_cal_mono {P P' : bc_P} (hP : ∀ d k pc np ls st h nq Q, P d k pc np ls st h nq Q → P' d k pc np ls st h nq Q) {vt : Bool} {d k nq np : Nat} {st : bc_St} {h : bc_H} {K K' : Nat → bc_St → bc_H → Prop} (hK : ∀ n st h, K n st h → K' n st h) (hx : bc_cal P vt d k nq np st h K) : bc_cal P' vt d k nq np st h K' := by
  unfold bc_cal at hx ⊢
  split at hx
  · split at hx
    · obtain ⟨nr, M, h1, h2, h3⟩ := hx
      exact ⟨nr, M, h1, hP _ _ _ _ _ _ _ _ _ h2, fun r h' hm => hK _ _ _ (h3 r h' hm)⟩
    · exact hx
  · exact hx
theorem bc_seg_mono {ph : Bool} {P P' : bc_P} (hP : ∀ d k pc np ls st h nq Q, P d k pc np ls st h nq Q → P' d k pc np ls st h nq Q) {d k nq : Nat} {Q : bc_Q} :
    ∀ (is : List Instr) (np : Nat) (ls : bc_L) (st : bc_St) (h : bc_H), bc_seg ph P d k nq Q is np ls st h → bc_seg ph P' d k nq Q is np ls st h := by
  intro is
  induction is with
  | nil => intro np ls st h hx; exact hx
  | cons i is ih =>
    intro np ls st h hx
    unfold bc_seg at hx ⊢
    split at hx
    all_goals first
      | exact hP _ _ _ _ _ _ _ _ _ hx
      | exact bc_cal_mono hP (fun _ _ _ q => ih _ _ _ _ q) hx
      | exact bc_wp_mono (fun _ _ _ q => ih _ _ _ _ q) hx
      | exact hx
      | (split at hx
         all_goals first
           | exact hx
           | exact ⟨fun e => hP _ _ _ _ _ _ _ _ _ (hx.1 e), fun e => ih _ _ _ _ (hx.2 e)⟩
           | exact bc_sw_mono (fun _ q => hP _ _ _ _ _ _ _ _ _ q) _ hx
           | exact ⟨hx.1, ih _ _ _ _ hx.2⟩)
theorem bc_ok {ph : Bool} {d k pc np : Nat} {ls : bc_L} {st : bc_St} {h : bc_H} {nq : Nat} {Q : bc_Q} (hx : bc_F ph (bc_OK ph) d k pc np ls st h nq Q) : bc_OK ph d k pc np ls st h nq Q := by
  intro P hP
  exact hP _ _ _ _ _ _ _ _ _ (bc_seg_mono (fun _ _ _ _ _ _ _ _ _ q => q P hP) _ _ _ _ _ hx)
/-- on from here, the code at hand -/
theorem bc_go {ph : Bool} {d k pc np : Nat} {ls : bc_L} {st : bc_St} {h : bc_H} {nq : Nat} {Q : bc_Q} (is : List Instr) (e : (bc_code k).drop pc = is) (hx : bc_seg ph (bc_OK ph) d k nq Q is np ls st h) : bc_OK ph d k pc np ls st h nq Q :=
  bc_ok (by unfold bc_F; rw [e]; exact hx)
end
section
/-! ===== the small machine's numbers against Int32, Int64 ===== -/
abbrev bc_i (x : Int) : Prop := -2147483648 ≤ x ∧ x < 2147483648
abbrev bc_j (x : Int) : Prop := -9223372036854775808 ≤ x ∧ x < 9223372036854775808
theorem bc_ti {x : Int} (h : bc_i x) : (Int32.ofInt x).toInt = x := Int32.toInt_ofInt_of_le h.1 h.2
theorem bc_tj {x : Int} (h : bc_j x) : (Int64.ofInt x).toInt = x := Int64.toInt_ofInt_of_le h.1 h.2
theorem bc_ri (x : Int32) : bc_i x.toInt := ⟨x.le_toInt, x.toInt_lt⟩
theorem bc_rj (x : Int64) : bc_j x.toInt := ⟨x.le_toInt, x.toInt_lt⟩
theorem bc_w32_i (x : Int) : bc_i (bc_w32 x) := by unfold bc_w32 bc_i; omega
theorem bc_w64_j (x : Int) : bc_j (bc_w64 x) := by unfold bc_w64 bc_j; omega
theorem bc_w32_e (x : Int) : bc_w32 x = x.bmod 4294967296 := by
  unfold bc_w32
  rw [Int.bmod_def]
  split <;> omega
theorem bc_w64_e (x : Int) : bc_w64 x = x.bmod 18446744073709551616 := by
  unfold bc_w64
  rw [Int.bmod_def]
  split <;> omega
theorem bc_w8_e (x : Int) : bc_w8 x = x.bmod 256 := by
  unfold bc_w8
  rw [Int.bmod_def]
  split <;> omega
theorem bc_w16_e (x : Int) : bc_w16 x = x.bmod 65536 := by
  unfold bc_w16
  rw [Int.bmod_def]
  split <;> omega
theorem bc_o32 (x : Int) : Int32.ofInt (bc_w32 x) = Int32.ofInt x := by
  apply Int32.toInt_inj.mp
  rw [bc_ti (bc_w32_i x), Int32.toInt_ofInt, bc_w32_e]
theorem bc_o64 (x : Int) : Int64.ofInt (bc_w64 x) = Int64.ofInt x := by
  apply Int64.toInt_inj.mp
  rw [bc_tj (bc_w64_j x), Int64.toInt_ofInt, bc_w64_e]
theorem bc_eqi {a b : Int} (ha : bc_i a) (hb : bc_i b) : Int32.ofInt a = Int32.ofInt b ↔ a = b := by
  rw [← Int32.toInt_inj, bc_ti ha, bc_ti hb]
theorem bc_lti {a b : Int} (ha : bc_i a) (hb : bc_i b) : Int32.ofInt a < Int32.ofInt b ↔ a < b := by
  rw [Int32.lt_iff_toInt_lt, bc_ti ha, bc_ti hb]
theorem bc_lei {a b : Int} (ha : bc_i a) (hb : bc_i b) : Int32.ofInt a ≤ Int32.ofInt b ↔ a ≤ b := by
  rw [Int32.le_iff_toInt_le, bc_ti ha, bc_ti hb]
theorem bc_tdiv {a b : Int} (ha : bc_i a) (hb : bc_i b) : Int32.ofInt (bc_w32 (a.tdiv b)) = Int32.ofInt a / Int32.ofInt b := by
  rw [bc_o32]
  exact Int32.ofInt_tdiv (by have := ha.1; simpa using this) (by have := ha.2; show a ≤ 2147483647; omega) (by have := hb.1; simpa using this) (by have := hb.2; show b ≤ 2147483647; omega)
theorem bc_tmod {a b : Int} (ha : bc_i a) (hb : bc_i b) : Int32.ofInt (a.tmod b) = Int32.ofInt a - Int32.ofInt a / Int32.ofInt b * Int32.ofInt b := by
  rw [← bc_tdiv ha hb, bc_o32, ← Int32.ofInt_mul, ← Int32.ofInt_sub, Int.tmod_def, Int.mul_comm]
theorem bc_ldiv {a b : Int} (ha : bc_j a) (hb : bc_j b) : Int64.ofInt (bc_w64 (a.tdiv b)) = Int64.ofInt a / Int64.ofInt b := by
  rw [bc_o64]
  exact Int64.ofInt_tdiv (by have := ha.1; simpa using this) (by have := ha.2; show a ≤ 9223372036854775807; omega) (by have := hb.1; simpa using this) (by have := hb.2; show b ≤ 9223372036854775807; omega)
theorem bc_lmod {a b : Int} (ha : bc_j a) (hb : bc_j b) : Int64.ofInt (a.tmod b) = Int64.ofInt a - Int64.ofInt a / Int64.ofInt b * Int64.ofInt b := by
  rw [← bc_ldiv ha hb, bc_o64, ← Int64.ofInt_mul, ← Int64.ofInt_sub, Int.tmod_def, Int.mul_comm]
theorem bc_tmod_i {a b : Int} (ha : bc_i a) (hb : b ≠ 0) : bc_i (a.tmod b) := by
  have h1 := Int.natAbs_tmod a b
  have h2 : a.natAbs % b.natAbs ≤ a.natAbs := Nat.mod_le _ _
  have h3 : 0 ≤ a → 0 ≤ a.tmod b := fun h => Int.tmod_nonneg b h
  have h4 : a ≤ 0 → a.tmod b ≤ 0 := fun h => by
    have q := Int.tmod_nonneg b (show 0 ≤ -a by omega)
    rw [Int.neg_tmod] at q
    omega
  obtain ⟨u, v⟩ := ha
  constructor <;> omega
theorem bc_lmod_j {a b : Int} (ha : bc_j a) (hb : b ≠ 0) : bc_j (a.tmod b) := by
  have h1 := Int.natAbs_tmod a b
  have h2 : a.natAbs % b.natAbs ≤ a.natAbs := Nat.mod_le _ _
  have h3 : 0 ≤ a → 0 ≤ a.tmod b := fun h => Int.tmod_nonneg b h
  have h4 : a ≤ 0 → a.tmod b ≤ 0 := fun h => by
    have q := Int.tmod_nonneg b (show 0 ≤ -a by omega)
    rw [Int.neg_tmod] at q
    omega
  obtain ⟨u, v⟩ := ha
  constructor <;> omega
theorem bc_i2l {a : Int} (ha : bc_i a) : (Int32.ofInt a).toInt64 = Int64.ofInt a := by
  apply Int64.toInt_inj.mp
  rw [Int32.toInt_toInt64, bc_ti ha, bc_tj ⟨by have := ha.1; omega, by have := ha.2; omega⟩]
theorem bc_l2i (a : Int) : (Int64.ofInt a).toInt32 = Int32.ofInt (bc_w32 a) := by
  rw [bc_o32, Int64.toInt32_ofInt]
theorem bc_w8_i (x : Int) : bc_i (bc_w8 x) := by unfold bc_w8 bc_i; omega
theorem bc_w16_i (x : Int) : bc_i (bc_w16 x) := by unfold bc_w16 bc_i; omega
theorem bc_i2b {a : Int} (ha : bc_i a) : (Int32.ofInt a).toInt8.toInt32 = Int32.ofInt (bc_w8 a) := by
  apply Int32.toInt_inj.mp
  rw [bc_ti (bc_w8_i a), Int8.toInt_toInt32, Int32.toInt_toInt8, bc_ti ha, bc_w8_e]
theorem bc_i2s {a : Int} (ha : bc_i a) : (Int32.ofInt a).toInt16.toInt32 = Int32.ofInt (bc_w16 a) := by
  apply Int32.toInt_inj.mp
  rw [bc_ti (bc_w16_i a), Int16.toInt_toInt32, Int32.toInt_toInt16, bc_ti ha, bc_w16_e]
theorem bc_lc {a b : Int} (ha : bc_j a) (hb : bc_j b) : lg_cmp (Int64.ofInt a) (Int64.ofInt b) = Int32.ofInt (bc_lcmp a b) := by
  unfold lg_cmp bc_lcmp
  have e1 : Int64.ofInt a > Int64.ofInt b ↔ b < a := by rw [gt_iff_lt, Int64.lt_iff_toInt_lt, bc_tj ha, bc_tj hb]
  have e2 : Int64.ofInt a = Int64.ofInt b ↔ a = b := by rw [← Int64.toInt_inj, bc_tj ha, bc_tj hb]
  rcases Int.lt_trichotomy a b with h | h | h
  · rw [if_neg (fun q => absurd (e1.mp q) (by omega)), if_neg (fun q => absurd (e2.mp q) (by omega)), if_pos h]
    rfl
  · rw [if_neg (fun q => absurd (e1.mp q) (by omega)), if_pos (e2.mpr h), if_neg (by omega), if_pos h]
    rfl
  · rw [if_pos (e1.mpr h), if_neg (by omega), if_neg (by omega)]
    rfl
theorem bc_lc_i (a b : Int) : bc_i (bc_lcmp a b) := by
  unfold bc_lcmp bc_i
  split
  · omega
  · split <;> omega
theorem bc_ci {i : Int} {n : Nat} (h0 : 0 ≤ i) (hn : i < (n : Int)) (hi : bc_i i) : vp_in (Int32.ofInt i) n ∧ (Int32.ofInt i).toNatClampNeg = i.toNat := by
  constructor
  · rw [vp_in_iff, bc_ti hi]
    exact ⟨h0, hn⟩
  · show (Int32.ofInt i).toInt.toNat = _
    rw [bc_ti hi]
end
section
def bc_i0 : String × MethodName × ByteArray × Nat × Option FieldType := ("BeastCaveLaw", ⟨"BeastCaveLaw", "law", "([I)Z"⟩, code, 4, some .boolean)
def bc_i1 : String × MethodName × ByteArray × Nat × Option FieldType := ("BeastCave$Ahead", ⟨"BeastCave$Ahead", "<init>", "()V"⟩, prog_2_method_1_code, 1, none)
def bc_i2 : String × MethodName × ByteArray × Nat × Option FieldType := ("BeastCave$Ahead", ⟨"BeastCave$Ahead", "watch", "(LBeastCave$Cave;II)V"⟩, prog_2_method_2_code, 9, none)
def bc_i3 : String × MethodName × ByteArray × Nat × Option FieldType := ("BeastCave$Ahead", ⟨"BeastCave$Ahead", "longestLook", "(LBeastCave$Cave;II)I"⟩, prog_2_method_3_code, 5, some .int)
def bc_i4 : String × MethodName × ByteArray × Nat × Option FieldType := ("BeastCave$Ahead", ⟨"BeastCave$Ahead", "whoWithSelf", "(LBeastCave$Cave;II)I"⟩, prog_2_method_4_code, 4, some .int)
def bc_i5 : String × MethodName × ByteArray × Nat × Option FieldType := ("BeastCave$Ahead", ⟨"BeastCave$Ahead", "fittingSelves", "(LBeastCave$Cave;ILBeastCave$Trays;II)J"⟩, prog_2_method_5_code, 12, some .long)
def bc_i6 : String × MethodName × ByteArray × Nat × Option FieldType := ("BeastCave$Ahead", ⟨"BeastCave$Ahead", "bestParting", "(J)I"⟩, prog_2_method_6_code, 9, some .int)
def bc_i7 : String × MethodName × ByteArray × Nat × Option FieldType := ("BeastCave$Beasts", ⟨"BeastCave$Beasts", "<init>", "()V"⟩, prog_3_method_1_code, 1, none)
def bc_i8 : String × MethodName × ByteArray × Nat × Option FieldType := ("BeastCave$Beasts", ⟨"BeastCave$Beasts", "clear", "()V"⟩, prog_3_method_2_code, 1, none)
def bc_i9 : String × MethodName × ByteArray × Nat × Option FieldType := ("BeastCave$Beasts", ⟨"BeastCave$Beasts", "copyOf", "(LBeastCave$Beasts;)V"⟩, prog_3_method_3_code, 2, none)
def bc_i10 : String × MethodName × ByteArray × Nat × Option FieldType := ("BeastCave$Beasts", ⟨"BeastCave$Beasts", "countRows", "(I[I)V"⟩, prog_3_method_4_code, 7, none)
def bc_i11 : String × MethodName × ByteArray × Nat × Option FieldType := ("BeastCave$Beasts", ⟨"BeastCave$Beasts", "greatestProduct", "(I[I)I"⟩, prog_3_method_5_code, 8, some .int)
def bc_i12 : String × MethodName × ByteArray × Nat × Option FieldType := ("BeastCave$Beasts", ⟨"BeastCave$Beasts", "inBestRow", "(II[I)I"⟩, prog_3_method_6_code, 11, some .int)
def bc_i13 : String × MethodName × ByteArray × Nat × Option FieldType := ("BeastCave$Cave", ⟨"BeastCave$Cave", "<init>", "()V"⟩, prog_4_method_1_code, 1, none)
def bc_i14 : String × MethodName × ByteArray × Nat × Option FieldType := ("BeastCave$Cave", ⟨"BeastCave$Cave", "clear", "()V"⟩, prog_4_method_2_code, 1, none)
def bc_i15 : String × MethodName × ByteArray × Nat × Option FieldType := ("BeastCave$Cave", ⟨"BeastCave$Cave", "copyOf", "(LBeastCave$Cave;)V"⟩, prog_4_method_3_code, 2, none)
def bc_i16 : String × MethodName × ByteArray × Nat × Option FieldType := ("BeastCave$Cave", ⟨"BeastCave$Cave", "addName", "(JII)V"⟩, prog_4_method_4_code, 5, none)
def bc_i17 : String × MethodName × ByteArray × Nat × Option FieldType := ("BeastCave$Cave", ⟨"BeastCave$Cave", "isTaken", "(J)Z"⟩, prog_4_method_5_code, 4, some .boolean)
def bc_i18 : String × MethodName × ByteArray × Nat × Option FieldType := ("BeastCave$Cave", ⟨"BeastCave$Cave", "named", "(JI)I"⟩, prog_4_method_6_code, 5, some .int)
def bc_i19 : String × MethodName × ByteArray × Nat × Option FieldType := ("BeastCave$Cave", ⟨"BeastCave$Cave", "copyRow", "([II[II)V"⟩, prog_4_method_7_code, 5, none)
def bc_i20 : String × MethodName × ByteArray × Nat × Option FieldType := ("BeastCave$Cave", ⟨"BeastCave$Cave", "change", "([IIII)V"⟩, prog_4_method_8_code, 6, none)
def bc_i21 : String × MethodName × ByteArray × Nat × Option FieldType := ("BeastCave$Cave", ⟨"BeastCave$Cave", "greatest", "([II)I"⟩, prog_4_method_9_code, 4, some .int)
def bc_i22 : String × MethodName × ByteArray × Nat × Option FieldType := ("BeastCave$Cave", ⟨"BeastCave$Cave", "foremost", "([II)I"⟩, prog_4_method_10_code, 4, some .int)
def bc_i23 : String × MethodName × ByteArray × Nat × Option FieldType := ("BeastCave$Cave", ⟨"BeastCave$Cave", "addVisitor", "(II)V"⟩, prog_4_method_11_code, 4, none)
def bc_i24 : String × MethodName × ByteArray × Nat × Option FieldType := ("BeastCave$Cave", ⟨"BeastCave$Cave", "greatestOf", "(I)I"⟩, prog_4_method_12_code, 2, some .int)
def bc_i25 : String × MethodName × ByteArray × Nat × Option FieldType := ("BeastCave$Cave", ⟨"BeastCave$Cave", "isTurned", "(I)Z"⟩, prog_4_method_13_code, 2, some .boolean)
def bc_i26 : String × MethodName × ByteArray × Nat × Option FieldType := ("BeastCave$Cave", ⟨"BeastCave$Cave", "turnedOnes", "()I"⟩, prog_4_method_14_code, 3, some .int)
def bc_i27 : String × MethodName × ByteArray × Nat × Option FieldType := ("BeastCave$Cave", ⟨"BeastCave$Cave", "goingOnes", "()I"⟩, prog_4_method_15_code, 3, some .int)
def bc_i28 : String × MethodName × ByteArray × Nat × Option FieldType := ("BeastCave$Cave", ⟨"BeastCave$Cave", "passMinute", "()I"⟩, prog_4_method_16_code, 5, some .int)
def bc_i29 : String × MethodName × ByteArray × Nat × Option FieldType := ("BeastCave$Cave", ⟨"BeastCave$Cave", "goTo", "(II)Z"⟩, prog_4_method_17_code, 4, some .boolean)
def bc_i30 : String × MethodName × ByteArray × Nat × Option FieldType := ("BeastCave$Cave", ⟨"BeastCave$Cave", "rouse", "(I)Z"⟩, prog_4_method_18_code, 3, some .boolean)
def bc_i31 : String × MethodName × ByteArray × Nat × Option FieldType := ("BeastCave$Cave", ⟨"BeastCave$Cave", "addOil", "(I)Z"⟩, prog_4_method_19_code, 2, some .boolean)
def bc_i32 : String × MethodName × ByteArray × Nat × Option FieldType := ("BeastCave$Days", ⟨"BeastCave$Days", "<init>", "()V"⟩, prog_5_method_1_code, 1, none)
def bc_i33 : String × MethodName × ByteArray × Nat × Option FieldType := ("BeastCave$Days", ⟨"BeastCave$Days", "clear", "()V"⟩, prog_5_method_2_code, 1, none)
def bc_i34 : String × MethodName × ByteArray × Nat × Option FieldType := ("BeastCave$Days", ⟨"BeastCave$Days", "copyOf", "(LBeastCave$Days;)V"⟩, prog_5_method_3_code, 2, none)
def bc_i35 : String × MethodName × ByteArray × Nat × Option FieldType := ("BeastCave$Days", ⟨"BeastCave$Days", "add", "(IIII)I"⟩, prog_5_method_4_code, 5, some .int)
def bc_i36 : String × MethodName × ByteArray × Nat × Option FieldType := ("BeastCave$Days", ⟨"BeastCave$Days", "pair", "(II)V"⟩, prog_5_method_5_code, 3, none)
def bc_i37 : String × MethodName × ByteArray × Nat × Option FieldType := ("BeastCave$Figures", ⟨"BeastCave$Figures", "<init>", "()V"⟩, prog_6_method_1_code, 1, none)
def bc_i38 : String × MethodName × ByteArray × Nat × Option FieldType := ("BeastCave$Figures", ⟨"BeastCave$Figures", "clear", "()V"⟩, prog_6_method_2_code, 1, none)
def bc_i39 : String × MethodName × ByteArray × Nat × Option FieldType := ("BeastCave$Figures", ⟨"BeastCave$Figures", "copyOf", "(LBeastCave$Figures;)V"⟩, prog_6_method_3_code, 2, none)
def bc_i40 : String × MethodName × ByteArray × Nat × Option FieldType := ("BeastCave$Figures", ⟨"BeastCave$Figures", "add", "(III)V"⟩, prog_6_method_4_code, 4, none)
def bc_i41 : String × MethodName × ByteArray × Nat × Option FieldType := ("BeastCave$Figures", ⟨"BeastCave$Figures", "countOrders", "([I)I"⟩, prog_6_method_5_code, 7, some .int)
def bc_i42 : String × MethodName × ByteArray × Nat × Option FieldType := ("BeastCave$Figures", ⟨"BeastCave$Figures", "inFirstOrder", "(I)I"⟩, prog_6_method_6_code, 7, some .int)
def bc_i43 : String × MethodName × ByteArray × Nat × Option FieldType := ("BeastCave$Figures", ⟨"BeastCave$Figures", "allBelow", "(I)I"⟩, prog_6_method_7_code, 5, some .int)
def bc_i44 : String × MethodName × ByteArray × Nat × Option FieldType := ("BeastCave$Figures", ⟨"BeastCave$Figures", "isLikeAll", "(III)Z"⟩, prog_6_method_8_code, 5, some .boolean)
def bc_i45 : String × MethodName × ByteArray × Nat × Option FieldType := ("BeastCave$Figures", ⟨"BeastCave$Figures", "findLikeSets", "(I[I)V"⟩, prog_6_method_9_code, 5, none)
def bc_i46 : String × MethodName × ByteArray × Nat × Option FieldType := ("BeastCave$Figures", ⟨"BeastCave$Figures", "fewestSets", "(I[I)I"⟩, prog_6_method_10_code, 7, some .int)
def bc_i47 : String × MethodName × ByteArray × Nat × Option FieldType := ("BeastCave$Figures", ⟨"BeastCave$Figures", "greatestSet", "(I[I)I"⟩, prog_6_method_11_code, 5, some .int)
def bc_i48 : String × MethodName × ByteArray × Nat × Option FieldType := ("BeastCave$Life", ⟨"BeastCave$Life", "<init>", "()V"⟩, prog_7_method_1_code, 1, none)
def bc_i49 : String × MethodName × ByteArray × Nat × Option FieldType := ("BeastCave$Life", ⟨"BeastCave$Life", "run", "(LBeastCave$Cave;LBeastCave$Days;I)V"⟩, prog_7_method_2_code, 6, none)
def bc_i50 : String × MethodName × ByteArray × Nat × Option FieldType := ("BeastCave$Life", ⟨"BeastCave$Life", "behindEnd", "(I)I"⟩, prog_7_method_3_code, 3, some .int)
def bc_i51 : String × MethodName × ByteArray × Nat × Option FieldType := ("BeastCave$Life", ⟨"BeastCave$Life", "behindStep", "(I)I"⟩, prog_7_method_4_code, 4, some .int)
def bc_i52 : String × MethodName × ByteArray × Nat × Option FieldType := ("BeastCave$Life", ⟨"BeastCave$Life", "isThere", "(I)Z"⟩, prog_7_method_5_code, 2, some .boolean)
def bc_i53 : String × MethodName × ByteArray × Nat × Option FieldType := ("BeastCave$Life", ⟨"BeastCave$Life", "holds", "(I)Z"⟩, prog_7_method_6_code, 3, some .boolean)
def bc_i54 : String × MethodName × ByteArray × Nat × Option FieldType := ("BeastCave$Life", ⟨"BeastCave$Life", "letPass", "(I)Z"⟩, prog_7_method_7_code, 3, some .boolean)
def bc_i55 : String × MethodName × ByteArray × Nat × Option FieldType := ("BeastCave$Life", ⟨"BeastCave$Life", "leadOne", "(I)Z"⟩, prog_7_method_8_code, 4, some .boolean)
def bc_i56 : String × MethodName × ByteArray × Nat × Option FieldType := ("BeastCave$Life", ⟨"BeastCave$Life", "pick", "(I)I"⟩, prog_7_method_9_code, 2, some .int)
def bc_i57 : String × MethodName × ByteArray × Nat × Option FieldType := ("BeastCave$Reader", ⟨"BeastCave$Reader", "<init>", "(LBeastCave$Text;)V"⟩, prog_8_method_1_code, 2, none)
def bc_i58 : String × MethodName × ByteArray × Nat × Option FieldType := ("BeastCave$Reader", ⟨"BeastCave$Reader", "takeCave", "(ILBeastCave$Cave;)Z"⟩, prog_8_method_2_code, 4, some .boolean)
def bc_i59 : String × MethodName × ByteArray × Nat × Option FieldType := ("BeastCave$Reader", ⟨"BeastCave$Reader", "takePart", "()Z"⟩, prog_8_method_3_code, 1, some .boolean)
def bc_i60 : String × MethodName × ByteArray × Nat × Option FieldType := ("BeastCave$Reader", ⟨"BeastCave$Reader", "newName", "(II)Z"⟩, prog_8_method_4_code, 3, some .boolean)
def bc_i61 : String × MethodName × ByteArray × Nat × Option FieldType := ("BeastCave$Reader", ⟨"BeastCave$Reader", "knownName", "(II)Z"⟩, prog_8_method_5_code, 4, some .boolean)
def bc_i62 : String × MethodName × ByteArray × Nat × Option FieldType := ("BeastCave$Reader", ⟨"BeastCave$Reader", "takeLamp", "()Z"⟩, prog_8_method_6_code, 1, some .boolean)
def bc_i63 : String × MethodName × ByteArray × Nat × Option FieldType := ("BeastCave$Reader", ⟨"BeastCave$Reader", "takeOdds", "()Z"⟩, prog_8_method_7_code, 1, some .boolean)
def bc_i64 : String × MethodName × ByteArray × Nat × Option FieldType := ("BeastCave$Reader", ⟨"BeastCave$Reader", "takeBeast", "()Z"⟩, prog_8_method_8_code, 1, some .boolean)
def bc_i65 : String × MethodName × ByteArray × Nat × Option FieldType := ("BeastCave$Reader", ⟨"BeastCave$Reader", "takeWall", "()Z"⟩, prog_8_method_9_code, 1, some .boolean)
def bc_i66 : String × MethodName × ByteArray × Nat × Option FieldType := ("BeastCave$Reader", ⟨"BeastCave$Reader", "takeWay", "()Z"⟩, prog_8_method_10_code, 2, some .boolean)
def bc_i67 : String × MethodName × ByteArray × Nat × Option FieldType := ("BeastCave$Reader", ⟨"BeastCave$Reader", "takeVisitor", "()Z"⟩, prog_8_method_11_code, 2, some .boolean)
def bc_i68 : String × MethodName × ByteArray × Nat × Option FieldType := ("BeastCave$Reader", ⟨"BeastCave$Reader", "takeFigure", "()Z"⟩, prog_8_method_12_code, 2, some .boolean)
def bc_i69 : String × MethodName × ByteArray × Nat × Option FieldType := ("BeastCave$Reader", ⟨"BeastCave$Reader", "takeOver", "()Z"⟩, prog_8_method_13_code, 2, some .boolean)
def bc_i70 : String × MethodName × ByteArray × Nat × Option FieldType := ("BeastCave$Reader", ⟨"BeastCave$Reader", "takeFollows", "()Z"⟩, prog_8_method_14_code, 2, some .boolean)
def bc_i71 : String × MethodName × ByteArray × Nat × Option FieldType := ("BeastCave$Reader", ⟨"BeastCave$Reader", "takeDays", "(ILBeastCave$Cave;LBeastCave$Days;)Z"⟩, prog_8_method_15_code, 6, some .boolean)
def bc_i72 : String × MethodName × ByteArray × Nat × Option FieldType := ("BeastCave$Reader", ⟨"BeastCave$Reader", "takeEnd", "()Z"⟩, prog_8_method_16_code, 1, some .boolean)
def bc_i73 : String × MethodName × ByteArray × Nat × Option FieldType := ("BeastCave$Reader", ⟨"BeastCave$Reader", "takeStep", "()Z"⟩, prog_8_method_17_code, 5, some .boolean)
def bc_i74 : String × MethodName × ByteArray × Nat × Option FieldType := ("BeastCave$Reader", ⟨"BeastCave$Reader", "isStep", "(I)Z"⟩, prog_8_method_18_code, 1, some .boolean)
def bc_i75 : String × MethodName × ByteArray × Nat × Option FieldType := ("BeastCave$Reader", ⟨"BeastCave$Reader", "takeRest", "(I)Z"⟩, prog_8_method_19_code, 2, some .boolean)
def bc_i76 : String × MethodName × ByteArray × Nat × Option FieldType := ("BeastCave$Reader", ⟨"BeastCave$Reader", "takeTest", "()Z"⟩, prog_8_method_20_code, 1, some .boolean)
def bc_i77 : String × MethodName × ByteArray × Nat × Option FieldType := ("BeastCave$Search", ⟨"BeastCave$Search", "<init>", "()V"⟩, prog_9_method_1_code, 1, none)
def bc_i78 : String × MethodName × ByteArray × Nat × Option FieldType := ("BeastCave$Search", ⟨"BeastCave$Search", "start", "(LBeastCave$Cave;I)V"⟩, prog_9_method_2_code, 3, none)
def bc_i79 : String × MethodName × ByteArray × Nat × Option FieldType := ("BeastCave$Search", ⟨"BeastCave$Search", "findTour", "(LBeastCave$Cave;III)Z"⟩, prog_9_method_3_code, 5, some .boolean)
def bc_i80 : String × MethodName × ByteArray × Nat × Option FieldType := ("BeastCave$Search", ⟨"BeastCave$Search", "goOn", "(IIII)V"⟩, prog_9_method_4_code, 7, none)
def bc_i81 : String × MethodName × ByteArray × Nat × Option FieldType := ("BeastCave$Search", ⟨"BeastCave$Search", "staysHimself", "(III)Z"⟩, prog_9_method_5_code, 6, some .boolean)
def bc_i82 : String × MethodName × ByteArray × Nat × Option FieldType := ("BeastCave$Search", ⟨"BeastCave$Search", "playGame", "(LBeastCave$Cave;II)I"⟩, prog_9_method_6_code, 4, some .int)
def bc_i83 : String × MethodName × ByteArray × Nat × Option FieldType := ("BeastCave$Search", ⟨"BeastCave$Search", "valueOf", "(III)I"⟩, prog_9_method_7_code, 4, some .int)
def bc_i84 : String × MethodName × ByteArray × Nat × Option FieldType := ("BeastCave$Search", ⟨"BeastCave$Search", "bestOfGuide", "(III)I"⟩, prog_9_method_8_code, 11, some .int)
def bc_i85 : String × MethodName × ByteArray × Nat × Option FieldType := ("BeastCave$Search", ⟨"BeastCave$Search", "bestOfBeast", "(III)I"⟩, prog_9_method_9_code, 6, some .int)
def bc_i86 : String × MethodName × ByteArray × Nat × Option FieldType := ("BeastCave$Search", ⟨"BeastCave$Search", "behindMinute", "(III)I"⟩, prog_9_method_10_code, 6, some .int)
def bc_i87 : String × MethodName × ByteArray × Nat × Option FieldType := ("BeastCave$Text", ⟨"BeastCave$Text", "<init>", "()V"⟩, prog_10_method_1_code, 6, none)
def bc_i88 : String × MethodName × ByteArray × Nat × Option FieldType := ("BeastCave$Text", ⟨"BeastCave$Text", "append", "(I)V"⟩, prog_10_method_2_code, 3, none)
def bc_i89 : String × MethodName × ByteArray × Nat × Option FieldType := ("BeastCave$Text", ⟨"BeastCave$Text", "begin", "(I)V"⟩, prog_10_method_3_code, 2, none)
def bc_i90 : String × MethodName × ByteArray × Nat × Option FieldType := ("BeastCave$Text", ⟨"BeastCave$Text", "isAtEnd", "()Z"⟩, prog_10_method_4_code, 1, some .boolean)
def bc_i91 : String × MethodName × ByteArray × Nat × Option FieldType := ("BeastCave$Text", ⟨"BeastCave$Text", "isName", "()Z"⟩, prog_10_method_5_code, 1, some .boolean)
def bc_i92 : String × MethodName × ByteArray × Nat × Option FieldType := ("BeastCave$Text", ⟨"BeastCave$Text", "fail", "(I)Z"⟩, prog_10_method_6_code, 2, some .boolean)
def bc_i93 : String × MethodName × ByteArray × Nat × Option FieldType := ("BeastCave$Text", ⟨"BeastCave$Text", "needWord", "(I)Z"⟩, prog_10_method_7_code, 2, some .boolean)
def bc_i94 : String × MethodName × ByteArray × Nat × Option FieldType := ("BeastCave$Text", ⟨"BeastCave$Text", "needSign", "(C)Z"⟩, prog_10_method_8_code, 2, some .boolean)
def bc_i95 : String × MethodName × ByteArray × Nat × Option FieldType := ("BeastCave$Text", ⟨"BeastCave$Text", "needNumber", "(II)Z"⟩, prog_10_method_9_code, 3, some .boolean)
def bc_i96 : String × MethodName × ByteArray × Nat × Option FieldType := ("BeastCave$Text", ⟨"BeastCave$Text", "advance", "()V"⟩, prog_10_method_10_code, 1, none)
def bc_i97 : String × MethodName × ByteArray × Nat × Option FieldType := ("BeastCave$Text", ⟨"BeastCave$Text", "takeWord", "()V"⟩, prog_10_method_11_code, 2, none)
def bc_i98 : String × MethodName × ByteArray × Nat × Option FieldType := ("BeastCave$Text", ⟨"BeastCave$Text", "takeNumber", "()V"⟩, prog_10_method_12_code, 2, none)
def bc_i99 : String × MethodName × ByteArray × Nat × Option FieldType := ("BeastCave$Text", ⟨"BeastCave$Text", "takeSign", "()V"⟩, prog_10_method_13_code, 3, none)
def bc_i100 : String × MethodName × ByteArray × Nat × Option FieldType := ("BeastCave$Trays", ⟨"BeastCave$Trays", "<init>", "()V"⟩, prog_11_method_1_code, 1, none)
def bc_i101 : String × MethodName × ByteArray × Nat × Option FieldType := ("BeastCave$Trays", ⟨"BeastCave$Trays", "isTray", "(I)Z"⟩, prog_11_method_2_code, 1, some .boolean)
def bc_i102 : String × MethodName × ByteArray × Nat × Option FieldType := ("BeastCave$Trays", ⟨"BeastCave$Trays", "isMissing", "(I)Z"⟩, prog_11_method_3_code, 2, some .boolean)
def bc_i103 : String × MethodName × ByteArray × Nat × Option FieldType := ("BeastCave$Trays", ⟨"BeastCave$Trays", "sortOf", "(I)I"⟩, prog_11_method_4_code, 2, some .int)
def bc_i104 : String × MethodName × ByteArray × Nat × Option FieldType := ("BeastCave$Trays", ⟨"BeastCave$Trays", "reaches", "(III)Z"⟩, prog_11_method_5_code, 4, some .boolean)
def bc_i105 : String × MethodName × ByteArray × Nat × Option FieldType := ("BeastCave$Trays", ⟨"BeastCave$Trays", "lay", "(III)V"⟩, prog_11_method_6_code, 5, none)
def bc_i106 : String × MethodName × ByteArray × Nat × Option FieldType := ("BeastCave$Trays", ⟨"BeastCave$Trays", "at", "(II)J"⟩, prog_11_method_7_code, 3, some .long)
def bc_i107 : String × MethodName × ByteArray × Nat × Option FieldType := ("BeastCave$Trays", ⟨"BeastCave$Trays", "put", "(IIJ)V"⟩, prog_11_method_8_code, 5, none)
def bc_i108 : String × MethodName × ByteArray × Nat × Option FieldType := ("BeastCave$Trays", ⟨"BeastCave$Trays", "cut", "(JI)J"⟩, prog_11_method_9_code, 3, some .long)
def bc_i109 : String × MethodName × ByteArray × Nat × Option FieldType := ("BeastCave$Trays", ⟨"BeastCave$Trays", "move", "(IIIII)V"⟩, prog_11_method_10_code, 6, none)
def bc_i110 : String × MethodName × ByteArray × Nat × Option FieldType := ("BeastCave$Walls", ⟨"BeastCave$Walls", "<init>", "()V"⟩, prog_12_method_1_code, 1, none)
def bc_i111 : String × MethodName × ByteArray × Nat × Option FieldType := ("BeastCave$Walls", ⟨"BeastCave$Walls", "clear", "()V"⟩, prog_12_method_2_code, 1, none)
def bc_i112 : String × MethodName × ByteArray × Nat × Option FieldType := ("BeastCave$Walls", ⟨"BeastCave$Walls", "copyOf", "(LBeastCave$Walls;)V"⟩, prog_12_method_3_code, 2, none)
def bc_i113 : String × MethodName × ByteArray × Nat × Option FieldType := ("BeastCave$Walls", ⟨"BeastCave$Walls", "add", "(II)V"⟩, prog_12_method_4_code, 3, none)
def bc_i114 : String × MethodName × ByteArray × Nat × Option FieldType := ("BeastCave$Walls", ⟨"BeastCave$Walls", "join", "(III)V"⟩, prog_12_method_5_code, 5, none)
def bc_i115 : String × MethodName × ByteArray × Nat × Option FieldType := ("BeastCave$Walls", ⟨"BeastCave$Walls", "bareOnes", "()I"⟩, prog_12_method_6_code, 3, some .int)
def bc_i116 : String × MethodName × ByteArray × Nat × Option FieldType := ("BeastCave$Walls", ⟨"BeastCave$Walls", "nextTo", "(I)I"⟩, prog_12_method_7_code, 4, some .int)
def bc_i117 : String × MethodName × ByteArray × Nat × Option FieldType := ("BeastCave$Walls", ⟨"BeastCave$Walls", "measureDistances", "()V"⟩, prog_12_method_8_code, 4, none)
def bc_i118 : String × MethodName × ByteArray × Nat × Option FieldType := ("BeastCave$Walls", ⟨"BeastCave$Walls", "shorten", "(III)V"⟩, prog_12_method_9_code, 7, none)
def bc_i119 : String × MethodName × ByteArray × Nat × Option FieldType := ("BeastCave", ⟨"BeastCave", "<init>", "()V"⟩, prog_1_method_1_code, 2, none)
def bc_i120 : String × MethodName × ByteArray × Nat × Option FieldType := ("BeastCave", ⟨"BeastCave", "status", "()I"⟩, prog_1_method_2_code, 1, some .int)
def bc_i121 : String × MethodName × ByteArray × Nat × Option FieldType := ("BeastCave", ⟨"BeastCave", "top", "()J"⟩, prog_1_method_3_code, 1, some .long)
def bc_i122 : String × MethodName × ByteArray × Nat × Option FieldType := ("BeastCave", ⟨"BeastCave", "bottom", "()J"⟩, prog_1_method_4_code, 1, some .long)
def bc_i123 : String × MethodName × ByteArray × Nat × Option FieldType := ("BeastCave", ⟨"BeastCave", "tray", "(III)Z"⟩, prog_1_method_5_code, 4, some .boolean)
def bc_i124 : String × MethodName × ByteArray × Nat × Option FieldType := ("BeastCave", ⟨"BeastCave", "write", "(IIJ)Z"⟩, prog_1_method_6_code, 6, some .boolean)
def bc_i125 : String × MethodName × ByteArray × Nat × Option FieldType := ("BeastCave", ⟨"BeastCave", "read", "(II)J"⟩, prog_1_method_7_code, 4, some .long)
def bc_i126 : String × MethodName × ByteArray × Nat × Option FieldType := ("BeastCave", ⟨"BeastCave", "pour", "(IIIII)Z"⟩, prog_1_method_8_code, 6, some .boolean)
def bc_i127 : String × MethodName × ByteArray × Nat × Option FieldType := ("BeastCave", ⟨"BeastCave", "feed", "(IIIII)I"⟩, prog_1_method_9_code, 6, some .int)
def bc_i128 : String × MethodName × ByteArray × Nat × Option FieldType := ("BeastCave", ⟨"BeastCave", "cave", "(I)I"⟩, prog_1_method_10_code, 4, some .int)
def bc_i129 : String × MethodName × ByteArray × Nat × Option FieldType := ("BeastCave", ⟨"BeastCave", "days", "(I)I"⟩, prog_1_method_11_code, 4, some .int)
def bc_i130 : String × MethodName × ByteArray × Nat × Option FieldType := ("BeastCave", ⟨"BeastCave", "fault", "(I)I"⟩, prog_1_method_12_code, 2, some .int)
def bc_i131 : String × MethodName × ByteArray × Nat × Option FieldType := ("BeastCave", ⟨"BeastCave", "told", "(I)I"⟩, prog_1_method_13_code, 2, some .int)
def bc_i132 : String × MethodName × ByteArray × Nat × Option FieldType := ("BeastCave", ⟨"BeastCave", "wall", "(II)I"⟩, prog_1_method_14_code, 3, some .int)
def bc_i133 : String × MethodName × ByteArray × Nat × Option FieldType := ("BeastCave", ⟨"BeastCave", "visitor", "(II)I"⟩, prog_1_method_15_code, 3, some .int)
def bc_i134 : String × MethodName × ByteArray × Nat × Option FieldType := ("BeastCave", ⟨"BeastCave", "measure", "(II)I"⟩, prog_1_method_16_code, 3, some .int)
def bc_i135 : String × MethodName × ByteArray × Nat × Option FieldType := ("BeastCave", ⟨"BeastCave", "who", "(I)I"⟩, prog_1_method_17_code, 2, some .int)
def bc_i136 : String × MethodName × ByteArray × Nat × Option FieldType := ("BeastCave", ⟨"BeastCave", "figure", "(II)I"⟩, prog_1_method_18_code, 3, some .int)
def bc_i137 : String × MethodName × ByteArray × Nat × Option FieldType := ("BeastCave", ⟨"BeastCave", "weight", "(II)I"⟩, prog_1_method_19_code, 3, some .int)
def bc_i138 : String × MethodName × ByteArray × Nat × Option FieldType := ("BeastCave", ⟨"BeastCave", "minute", "(I)I"⟩, prog_1_method_20_code, 3, some .int)
def bc_i139 : String × MethodName × ByteArray × Nat × Option FieldType := ("BeastCave", ⟨"BeastCave", "lead", "(II)I"⟩, prog_1_method_21_code, 3, some .int)
def bc_i140 : String × MethodName × ByteArray × Nat × Option FieldType := ("BeastCave", ⟨"BeastCave", "wake", "(I)I"⟩, prog_1_method_22_code, 2, some .int)
def bc_i141 : String × MethodName × ByteArray × Nat × Option FieldType := ("BeastCave", ⟨"BeastCave", "fill", "(I)I"⟩, prog_1_method_23_code, 2, some .int)
def bc_i142 : String × MethodName × ByteArray × Nat × Option FieldType := ("BeastCave", ⟨"BeastCave", "paint", "(III)Z"⟩, prog_1_method_24_code, 4, some .boolean)
def bc_i143 : String × MethodName × ByteArray × Nat × Option FieldType := ("BeastCave", ⟨"BeastCave", "scrub", "(I)I"⟩, prog_1_method_25_code, 3, some .int)
def bc_i144 : String × MethodName × ByteArray × Nat × Option FieldType := ("BeastCave", ⟨"BeastCave", "come", "(II)I"⟩, prog_1_method_26_code, 3, some .int)
def bc_i145 : String × MethodName × ByteArray × Nat × Option FieldType := ("BeastCave", ⟨"BeastCave", "draw", "(III)I"⟩, prog_1_method_27_code, 4, some .int)
def bc_i146 : String × MethodName × ByteArray × Nat × Option FieldType := ("BeastCave", ⟨"BeastCave", "cover", "(II)Z"⟩, prog_1_method_28_code, 3, some .boolean)
def bc_i147 : String × MethodName × ByteArray × Nat × Option FieldType := ("BeastCave", ⟨"BeastCave", "rule", "(I)Z"⟩, prog_1_method_29_code, 2, some .boolean)
def bc_i148 : String × MethodName × ByteArray × Nat × Option FieldType := ("BeastCave", ⟨"BeastCave", "measureIn", "(III)I"⟩, prog_1_method_30_code, 4, some .int)
def bc_i149 : String × MethodName × ByteArray × Nat × Option FieldType := ("BeastCave", ⟨"BeastCave", "whoIn", "(II)I"⟩, prog_1_method_31_code, 3, some .int)
def bc_i150 : String × MethodName × ByteArray × Nat × Option FieldType := ("BeastCave", ⟨"BeastCave", "turnIn", "(I)I"⟩, prog_1_method_32_code, 3, some .int)
def bc_i151 : String × MethodName × ByteArray × Nat × Option FieldType := ("BeastCave", ⟨"BeastCave", "freeIn", "()I"⟩, prog_1_method_33_code, 2, some .int)
def bc_i152 : String × MethodName × ByteArray × Nat × Option FieldType := ("BeastCave", ⟨"BeastCave", "safe", "(II)I"⟩, prog_1_method_34_code, 3, some .int)
def bc_i153 : String × MethodName × ByteArray × Nat × Option FieldType := ("BeastCave", ⟨"BeastCave", "far", "(II)I"⟩, prog_1_method_35_code, 4, some .int)
def bc_i154 : String × MethodName × ByteArray × Nat × Option FieldType := ("BeastCave", ⟨"BeastCave", "near", "(I)I"⟩, prog_1_method_36_code, 2, some .int)
def bc_i155 : String × MethodName × ByteArray × Nat × Option FieldType := ("BeastCave", ⟨"BeastCave", "tour", "(III)I"⟩, prog_1_method_37_code, 5, some .int)
def bc_i156 : String × MethodName × ByteArray × Nat × Option FieldType := ("BeastCave", ⟨"BeastCave", "tourAt", "(IIII)I"⟩, prog_1_method_38_code, 6, some .int)
def bc_i157 : String × MethodName × ByteArray × Nat × Option FieldType := ("BeastCave", ⟨"BeastCave", "layers", "()I"⟩, prog_1_method_39_code, 1, some .int)
def bc_i158 : String × MethodName × ByteArray × Nat × Option FieldType := ("BeastCave", ⟨"BeastCave", "layerAt", "(I)I"⟩, prog_1_method_40_code, 3, some .int)
def bc_i159 : String × MethodName × ByteArray × Nat × Option FieldType := ("BeastCave", ⟨"BeastCave", "low", "(I)I"⟩, prog_1_method_41_code, 2, some .int)
def bc_i160 : String × MethodName × ByteArray × Nat × Option FieldType := ("BeastCave", ⟨"BeastCave", "hands", "(I)I"⟩, prog_1_method_42_code, 2, some .int)
def bc_i161 : String × MethodName × ByteArray × Nat × Option FieldType := ("BeastCave", ⟨"BeastCave", "hand", "(I)I"⟩, prog_1_method_43_code, 2, some .int)
def bc_i162 : String × MethodName × ByteArray × Nat × Option FieldType := ("BeastCave", ⟨"BeastCave", "rows", "(I)J"⟩, prog_1_method_44_code, 4, some .long)
def bc_i163 : String × MethodName × ByteArray × Nat × Option FieldType := ("BeastCave", ⟨"BeastCave", "rowsTo", "(II)J"⟩, prog_1_method_45_code, 3, some .long)
def bc_i164 : String × MethodName × ByteArray × Nat × Option FieldType := ("BeastCave", ⟨"BeastCave", "likeliest", "(I)I"⟩, prog_1_method_46_code, 3, some .int)
def bc_i165 : String × MethodName × ByteArray × Nat × Option FieldType := ("BeastCave", ⟨"BeastCave", "likeliestAt", "(II)I"⟩, prog_1_method_47_code, 3, some .int)
def bc_i166 : String × MethodName × ByteArray × Nat × Option FieldType := ("BeastCave", ⟨"BeastCave", "fits", "(III)I"⟩, prog_1_method_48_code, 5, some .int)
def bc_i167 : String × MethodName × ByteArray × Nat × Option FieldType := ("BeastCave", ⟨"BeastCave", "fitsAt", "(IIII)I"⟩, prog_1_method_49_code, 10, some .int)
def bc_i168 : String × MethodName × ByteArray × Nat × Option FieldType := ("BeastCave", ⟨"BeastCave", "ask", "(III)I"⟩, prog_1_method_50_code, 7, some .int)
def bc_i169 : String × MethodName × ByteArray × Nat × Option FieldType := ("BeastCave", ⟨"BeastCave", "game", "(II)I"⟩, prog_1_method_51_code, 3, some .int)
def bc_i170 : String × MethodName × ByteArray × Nat × Option FieldType := ("BeastCave", ⟨"BeastCave", "moveOf", "(II)I"⟩, prog_1_method_52_code, 3, some .int)
def bc_i171 : String × MethodName × ByteArray × Nat × Option FieldType := ("BeastCave", ⟨"BeastCave", "flicker", "(II)Z"⟩, prog_1_method_53_code, 6, some .boolean)
def bc_i172 : String × MethodName × ByteArray × Nat × Option FieldType := ("BeastCave", ⟨"BeastCave", "copyMost", "(I)I"⟩, prog_1_method_54_code, 3, some .int)
def bc_i173 : String × MethodName × ByteArray × Nat × Option FieldType := ("BeastCave", ⟨"BeastCave", "live", "(I)I"⟩, prog_1_method_55_code, 2, some .int)
def bc_i174 : String × MethodName × ByteArray × Nat × Option FieldType := ("BeastCave", ⟨"BeastCave", "lived", "(I)I"⟩, prog_1_method_56_code, 2, some .int)
def bc_i175 : String × MethodName × ByteArray × Nat × Option FieldType := ("BeastCave", ⟨"BeastCave", "mean", "(II)Z"⟩, prog_1_method_57_code, 5, some .boolean)
def bc_i176 : String × MethodName × ByteArray × Nat × Option FieldType := ("BeastCave", ⟨"BeastCave", "mark", "()I"⟩, prog_1_method_58_code, 1, some .int)
def bc_i177 : String × MethodName × ByteArray × Nat × Option FieldType := ("BeastCave", ⟨"BeastCave", "undo", "()I"⟩, prog_1_method_59_code, 1, some .int)
def bc_i178 : String × MethodName × ByteArray × Nat × Option FieldType := ("BeastCave", ⟨"BeastCave", "answer", "(I)I"⟩, prog_1_method_60_code, 2, some .int)
def bc_i179 : String × MethodName × ByteArray × Nat × Option FieldType := ("BeastCave", ⟨"BeastCave", "refuse", "(I)I"⟩, prog_1_method_61_code, 2, some .int)
def bc_i180 : String × MethodName × ByteArray × Nat × Option FieldType := ("BeastCave", ⟨"BeastCave", "grant", "()Z"⟩, prog_1_method_62_code, 1, some .boolean)
def bc_i181 : String × MethodName × ByteArray × Nat × Option FieldType := ("BeastCave", ⟨"BeastCave", "deny", "(I)Z"⟩, prog_1_method_63_code, 2, some .boolean)
def bc_i182 : String × MethodName × ByteArray × Nat × Option FieldType := ("BeastCave", ⟨"BeastCave", "within", "(III)Z"⟩, prog_1_method_64_code, 3, some .boolean)
def bc_i183 : String × MethodName × ByteArray × Nat × Option FieldType := ("BeastCave", ⟨"BeastCave", "has", "(II)Z"⟩, prog_1_method_65_code, 2, some .boolean)
def bc_i184 : String × MethodName × ByteArray × Nat × Option FieldType := ("BeastCave", ⟨"BeastCave", "isBeast", "(I)Z"⟩, prog_1_method_66_code, 2, some .boolean)
def bc_i185 : String × MethodName × ByteArray × Nat × Option FieldType := ("BeastCave", ⟨"BeastCave", "isWall", "(I)Z"⟩, prog_1_method_67_code, 2, some .boolean)
def bc_i186 : String × MethodName × ByteArray × Nat × Option FieldType := ("BeastCave", ⟨"BeastCave", "isVisitor", "(I)Z"⟩, prog_1_method_68_code, 2, some .boolean)
def bc_i187 : String × MethodName × ByteArray × Nat × Option FieldType := ("BeastCave", ⟨"BeastCave", "isFigure", "(I)Z"⟩, prog_1_method_69_code, 2, some .boolean)
def bc_i188 : String × MethodName × ByteArray × Nat × Option FieldType := ("BeastCave", ⟨"BeastCave", "statusOfPlace", "(II)I"⟩, prog_1_method_70_code, 3, some .int)
def bc_i189 : String × MethodName × ByteArray × Nat × Option FieldType := ("BeastCave", ⟨"BeastCave", "statusOfTour", "(III)I"⟩, prog_1_method_71_code, 4, some .int)
def bc_i190 : String × MethodName × ByteArray × Nat × Option FieldType := ("BeastCave", ⟨"BeastCave", "statusOfSeen", "(III)I"⟩, prog_1_method_72_code, 9, some .int)
def bc_i191 : String × MethodName × ByteArray × Nat × Option FieldType := ("BeastCave", ⟨"BeastCave", "tellFraction", "(JJ)V"⟩, prog_1_method_73_code, 12, none)
def bc_i192 : String × MethodName × ByteArray × Nat × Option FieldType := ("BeastCave", ⟨"BeastCave", "power", "(II)J"⟩, prog_1_method_74_code, 5, some .long)
def bc_i193 : String × MethodName × ByteArray × Nat × Option FieldType := ("BeastCave", ⟨"BeastCave", "choices", "(II)J"⟩, prog_1_method_75_code, 5, some .long)
def bc_i194 : String × MethodName × ByteArray × Nat × Option FieldType := ("BeastCaveModel", ⟨"BeastCaveModel", "<init>", "()V"⟩, prog_14_method_1_code, 1, none)
def bc_i195 : String × MethodName × ByteArray × Nat × Option FieldType := ("BeastCaveModel", ⟨"BeastCaveModel", "plain", "(I)V"⟩, prog_14_method_2_code, 3, none)
def bc_i196 : String × MethodName × ByteArray × Nat × Option FieldType := ("BeastCaveModel", ⟨"BeastCaveModel", "status", "()I"⟩, prog_14_method_3_code, 1, some .int)
def bc_i197 : String × MethodName × ByteArray × Nat × Option FieldType := ("BeastCaveModel", ⟨"BeastCaveModel", "top", "()J"⟩, prog_14_method_4_code, 1, some .long)
def bc_i198 : String × MethodName × ByteArray × Nat × Option FieldType := ("BeastCaveModel", ⟨"BeastCaveModel", "bottom", "()J"⟩, prog_14_method_5_code, 1, some .long)
def bc_i199 : String × MethodName × ByteArray × Nat × Option FieldType := ("BeastCaveModel", ⟨"BeastCaveModel", "is", "(I)Z"⟩, prog_14_method_6_code, 2, some .boolean)
def bc_i200 : String × MethodName × ByteArray × Nat × Option FieldType := ("BeastCaveModel", ⟨"BeastCaveModel", "refuse", "(I)I"⟩, prog_14_method_7_code, 2, some .int)
def bc_i201 : String × MethodName × ByteArray × Nat × Option FieldType := ("BeastCaveModel", ⟨"BeastCaveModel", "gives", "(I)I"⟩, prog_14_method_8_code, 2, some .int)
def bc_i202 : String × MethodName × ByteArray × Nat × Option FieldType := ("BeastCaveModel", ⟨"BeastCaveModel", "orNone", "(I)I"⟩, prog_14_method_9_code, 2, some .int)
def bc_i203 : String × MethodName × ByteArray × Nat × Option FieldType := ("BeastCaveModel", ⟨"BeastCaveModel", "tellsBy", "(JJ)Z"⟩, prog_14_method_10_code, 11, some .boolean)
def bc_i204 : String × MethodName × ByteArray × Nat × Option FieldType := ("BeastCaveModel", ⟨"BeastCaveModel", "isTray", "(I)Z"⟩, prog_14_method_11_code, 1, some .boolean)
def bc_i205 : String × MethodName × ByteArray × Nat × Option FieldType := ("BeastCaveModel", ⟨"BeastCaveModel", "cut", "(JI)J"⟩, prog_14_method_12_code, 3, some .long)
def bc_i206 : String × MethodName × ByteArray × Nat × Option FieldType := ("BeastCaveModel", ⟨"BeastCaveModel", "tray", "(III)Z"⟩, prog_14_method_13_code, 5, some .boolean)
def bc_i207 : String × MethodName × ByteArray × Nat × Option FieldType := ("BeastCaveModel", ⟨"BeastCaveModel", "wrongPlace", "(II)I"⟩, prog_14_method_14_code, 3, some .int)
def bc_i208 : String × MethodName × ByteArray × Nat × Option FieldType := ("BeastCaveModel", ⟨"BeastCaveModel", "write", "(IIJ)Z"⟩, prog_14_method_15_code, 6, some .boolean)
def bc_i209 : String × MethodName × ByteArray × Nat × Option FieldType := ("BeastCaveModel", ⟨"BeastCaveModel", "read", "(II)J"⟩, prog_14_method_16_code, 3, some .long)
def bc_i210 : String × MethodName × ByteArray × Nat × Option FieldType := ("BeastCaveModel", ⟨"BeastCaveModel", "pour", "(IIIII)Z"⟩, prog_14_method_17_code, 8, some .boolean)
def bc_i211 : String × MethodName × ByteArray × Nat × Option FieldType := ("BeastCaveModel", ⟨"BeastCaveModel", "isFrom", "(JJJ)Z"⟩, prog_14_method_18_code, 6, some .boolean)
def bc_i212 : String × MethodName × ByteArray × Nat × Option FieldType := ("BeastCaveModel", ⟨"BeastCaveModel", "feed", "(IIIII)I"⟩, prog_14_method_19_code, 6, some .int)
def bc_i213 : String × MethodName × ByteArray × Nat × Option FieldType := ("BeastCaveModel", ⟨"BeastCaveModel", "four", "(I)V"⟩, prog_14_method_20_code, 3, none)
def bc_i214 : String × MethodName × ByteArray × Nat × Option FieldType := ("BeastCaveModel", ⟨"BeastCaveModel", "byteAt", "(I)I"⟩, prog_14_method_21_code, 2, some .int)
def bc_i215 : String × MethodName × ByteArray × Nat × Option FieldType := ("BeastCaveModel", ⟨"BeastCaveModel", "isSmall", "(I)Z"⟩, prog_14_method_22_code, 1, some .boolean)
def bc_i216 : String × MethodName × ByteArray × Nat × Option FieldType := ("BeastCaveModel", ⟨"BeastCaveModel", "isDigit", "(I)Z"⟩, prog_14_method_23_code, 1, some .boolean)
def bc_i217 : String × MethodName × ByteArray × Nat × Option FieldType := ("BeastCaveModel", ⟨"BeastCaveModel", "ahead", "()V"⟩, prog_14_method_24_code, 2, none)
def bc_i218 : String × MethodName × ByteArray × Nat × Option FieldType := ("BeastCaveModel", ⟨"BeastCaveModel", "isSign", "(I)Z"⟩, prog_14_method_25_code, 2, some .boolean)
def bc_i219 : String × MethodName × ByteArray × Nat × Option FieldType := ("BeastCaveModel", ⟨"BeastCaveModel", "inWords", "(Ljava/lang/String;)I"⟩, prog_14_method_26_code, 7, some .int)
def bc_i220 : String × MethodName × ByteArray × Nat × Option FieldType := ("BeastCaveModel", ⟨"BeastCaveModel", "fails", "(I)Z"⟩, prog_14_method_27_code, 2, some .boolean)
def bc_i221 : String × MethodName × ByteArray × Nat × Option FieldType := ("BeastCaveModel", ⟨"BeastCaveModel", "begins", "(II)Z"⟩, prog_14_method_28_code, 4, some .boolean)
def bc_i222 : String × MethodName × ByteArray × Nat × Option FieldType := ("BeastCaveModel", ⟨"BeastCaveModel", "wantSign", "(I)Z"⟩, prog_14_method_29_code, 2, some .boolean)
def bc_i223 : String × MethodName × ByteArray × Nat × Option FieldType := ("BeastCaveModel", ⟨"BeastCaveModel", "wantWord", "(Ljava/lang/String;I)Z"⟩, prog_14_method_30_code, 3, some .boolean)
def bc_i224 : String × MethodName × ByteArray × Nat × Option FieldType := ("BeastCaveModel", ⟨"BeastCaveModel", "number", "(III)Z"⟩, prog_14_method_31_code, 4, some .boolean)
def bc_i225 : String × MethodName × ByteArray × Nat × Option FieldType := ("BeastCaveModel", ⟨"BeastCaveModel", "isName", "(Ljava/lang/String;)Z"⟩, prog_14_method_32_code, 2, some .boolean)
def bc_i226 : String × MethodName × ByteArray × Nat × Option FieldType := ("BeastCaveModel", ⟨"BeastCaveModel", "nameHere", "()J"⟩, prog_14_method_33_code, 4, some .long)
def bc_i227 : String × MethodName × ByteArray × Nat × Option FieldType := ("BeastCaveModel", ⟨"BeastCaveModel", "findHere", "(II)I"⟩, prog_14_method_34_code, 4, some .int)
def bc_i228 : String × MethodName × ByteArray × Nat × Option FieldType := ("BeastCaveModel", ⟨"BeastCaveModel", "fault", "(I)I"⟩, prog_14_method_35_code, 2, some .int)
def bc_i229 : String × MethodName × ByteArray × Nat × Option FieldType := ("BeastCaveModel", ⟨"BeastCaveModel", "taken", "(I)I"⟩, prog_14_method_36_code, 2, some .int)
def bc_i230 : String × MethodName × ByteArray × Nat × Option FieldType := ("BeastCaveModel", ⟨"BeastCaveModel", "wallRow", "(I)I"⟩, prog_14_method_37_code, 1, some .int)
def bc_i231 : String × MethodName × ByteArray × Nat × Option FieldType := ("BeastCaveModel", ⟨"BeastCaveModel", "visitorRow", "(I)I"⟩, prog_14_method_38_code, 1, some .int)
def bc_i232 : String × MethodName × ByteArray × Nat × Option FieldType := ("BeastCaveModel", ⟨"BeastCaveModel", "figureRow", "(I)I"⟩, prog_14_method_39_code, 1, some .int)
def bc_i233 : String × MethodName × ByteArray × Nat × Option FieldType := ("BeastCaveModel", ⟨"BeastCaveModel", "isThere", "(I)Z"⟩, prog_14_method_40_code, 2, some .boolean)
def bc_i234 : String × MethodName × ByteArray × Nat × Option FieldType := ("BeastCaveModel", ⟨"BeastCaveModel", "isOld", "()Z"⟩, prog_14_method_41_code, 1, some .boolean)
def bc_i235 : String × MethodName × ByteArray × Nat × Option FieldType := ("BeastCaveModel", ⟨"BeastCaveModel", "newOne", "(III)Z"⟩, prog_14_method_42_code, 4, some .boolean)
def bc_i236 : String × MethodName × ByteArray × Nat × Option FieldType := ("BeastCaveModel", ⟨"BeastCaveModel", "oldOne", "(III)Z"⟩, prog_14_method_43_code, 4, some .boolean)
def bc_i237 : String × MethodName × ByteArray × Nat × Option FieldType := ("BeastCaveModel", ⟨"BeastCaveModel", "oldTwo", "(III)Z"⟩, prog_14_method_44_code, 4, some .boolean)
def bc_i238 : String × MethodName × ByteArray × Nat × Option FieldType := ("BeastCaveModel", ⟨"BeastCaveModel", "newBeastTo", "(I)Z"⟩, prog_14_method_45_code, 2, some .boolean)
def bc_i239 : String × MethodName × ByteArray × Nat × Option FieldType := ("BeastCaveModel", ⟨"BeastCaveModel", "aBeast", "()Z"⟩, prog_14_method_46_code, 1, some .boolean)
def bc_i240 : String × MethodName × ByteArray × Nat × Option FieldType := ("BeastCaveModel", ⟨"BeastCaveModel", "aWall", "()Z"⟩, prog_14_method_47_code, 2, some .boolean)
def bc_i241 : String × MethodName × ByteArray × Nat × Option FieldType := ("BeastCaveModel", ⟨"BeastCaveModel", "aWay", "()Z"⟩, prog_14_method_48_code, 2, some .boolean)
def bc_i242 : String × MethodName × ByteArray × Nat × Option FieldType := ("BeastCaveModel", ⟨"BeastCaveModel", "aVisitor", "()Z"⟩, prog_14_method_49_code, 2, some .boolean)
def bc_i243 : String × MethodName × ByteArray × Nat × Option FieldType := ("BeastCaveModel", ⟨"BeastCaveModel", "aFigure", "()Z"⟩, prog_14_method_50_code, 2, some .boolean)
def bc_i244 : String × MethodName × ByteArray × Nat × Option FieldType := ("BeastCaveModel", ⟨"BeastCaveModel", "anOver", "()Z"⟩, prog_14_method_51_code, 2, some .boolean)
def bc_i245 : String × MethodName × ByteArray × Nat × Option FieldType := ("BeastCaveModel", ⟨"BeastCaveModel", "aFollowing", "()Z"⟩, prog_14_method_52_code, 2, some .boolean)
def bc_i246 : String × MethodName × ByteArray × Nat × Option FieldType := ("BeastCaveModel", ⟨"BeastCaveModel", "cavePart", "()Z"⟩, prog_14_method_53_code, 3, some .boolean)
def bc_i247 : String × MethodName × ByteArray × Nat × Option FieldType := ("BeastCaveModel", ⟨"BeastCaveModel", "cave", "(I)I"⟩, prog_14_method_54_code, 4, some .int)
def bc_i248 : String × MethodName × ByteArray × Nat × Option FieldType := ("BeastCaveModel", ⟨"BeastCaveModel", "visitorTo", "(I)Z"⟩, prog_14_method_55_code, 2, some .boolean)
def bc_i249 : String × MethodName × ByteArray × Nat × Option FieldType := ("BeastCaveModel", ⟨"BeastCaveModel", "wallTo", "(I)Z"⟩, prog_14_method_56_code, 2, some .boolean)
def bc_i250 : String × MethodName × ByteArray × Nat × Option FieldType := ("BeastCaveModel", ⟨"BeastCaveModel", "test", "(I)Z"⟩, prog_14_method_57_code, 3, some .boolean)
def bc_i251 : String × MethodName × ByteArray × Nat × Option FieldType := ("BeastCaveModel", ⟨"BeastCaveModel", "dayOrder", "(II)Z"⟩, prog_14_method_58_code, 3, some .boolean)
def bc_i252 : String × MethodName × ByteArray × Nat × Option FieldType := ("BeastCaveModel", ⟨"BeastCaveModel", "dayStep", "()Z"⟩, prog_14_method_59_code, 6, some .boolean)
def bc_i253 : String × MethodName × ByteArray × Nat × Option FieldType := ("BeastCaveModel", ⟨"BeastCaveModel", "days", "(I)I"⟩, prog_14_method_60_code, 4, some .int)
def bc_i254 : String × MethodName × ByteArray × Nat × Option FieldType := ("BeastCaveModel", ⟨"BeastCaveModel", "isBeast", "(I)Z"⟩, prog_14_method_61_code, 2, some .boolean)
def bc_i255 : String × MethodName × ByteArray × Nat × Option FieldType := ("BeastCaveModel", ⟨"BeastCaveModel", "isWall", "(I)Z"⟩, prog_14_method_62_code, 2, some .boolean)
def bc_i256 : String × MethodName × ByteArray × Nat × Option FieldType := ("BeastCaveModel", ⟨"BeastCaveModel", "isVisitor", "(I)Z"⟩, prog_14_method_63_code, 2, some .boolean)
def bc_i257 : String × MethodName × ByteArray × Nat × Option FieldType := ("BeastCaveModel", ⟨"BeastCaveModel", "isFigure", "(I)Z"⟩, prog_14_method_64_code, 2, some .boolean)
def bc_i258 : String × MethodName × ByteArray × Nat × Option FieldType := ("BeastCaveModel", ⟨"BeastCaveModel", "isIn", "(II)Z"⟩, prog_14_method_65_code, 3, some .boolean)
def bc_i259 : String × MethodName × ByteArray × Nat × Option FieldType := ("BeastCaveModel", ⟨"BeastCaveModel", "bits", "(I)I"⟩, prog_14_method_66_code, 3, some .int)
def bc_i260 : String × MethodName × ByteArray × Nat × Option FieldType := ("BeastCaveModel", ⟨"BeastCaveModel", "wallOf", "(II)I"⟩, prog_14_method_67_code, 3, some .int)
def bc_i261 : String × MethodName × ByteArray × Nat × Option FieldType := ("BeastCaveModel", ⟨"BeastCaveModel", "visitorOf", "(II)I"⟩, prog_14_method_68_code, 3, some .int)
def bc_i262 : String × MethodName × ByteArray × Nat × Option FieldType := ("BeastCaveModel", ⟨"BeastCaveModel", "figureOf", "(II)I"⟩, prog_14_method_69_code, 3, some .int)
def bc_i263 : String × MethodName × ByteArray × Nat × Option FieldType := ("BeastCaveModel", ⟨"BeastCaveModel", "weightOf", "(II)I"⟩, prog_14_method_70_code, 3, some .int)
def bc_i264 : String × MethodName × ByteArray × Nat × Option FieldType := ("BeastCaveModel", ⟨"BeastCaveModel", "greatestOf", "(I)I"⟩, prog_14_method_71_code, 4, some .int)
def bc_i265 : String × MethodName × ByteArray × Nat × Option FieldType := ("BeastCaveModel", ⟨"BeastCaveModel", "mostOf", "(I)I"⟩, prog_14_method_72_code, 3, some .int)
def bc_i266 : String × MethodName × ByteArray × Nat × Option FieldType := ("BeastCaveModel", ⟨"BeastCaveModel", "isTurned", "(I)Z"⟩, prog_14_method_73_code, 2, some .boolean)
def bc_i267 : String × MethodName × ByteArray × Nat × Option FieldType := ("BeastCaveModel", ⟨"BeastCaveModel", "whoIs", "(I)I"⟩, prog_14_method_74_code, 2, some .int)
def bc_i268 : String × MethodName × ByteArray × Nat × Option FieldType := ("BeastCaveModel", ⟨"BeastCaveModel", "bareOnes", "()I"⟩, prog_14_method_75_code, 3, some .int)
def bc_i269 : String × MethodName × ByteArray × Nat × Option FieldType := ("BeastCaveModel", ⟨"BeastCaveModel", "visitorsThat", "(I)I"⟩, prog_14_method_76_code, 5, some .int)
def bc_i270 : String × MethodName × ByteArray × Nat × Option FieldType := ("BeastCaveModel", ⟨"BeastCaveModel", "told", "(I)I"⟩, prog_14_method_77_code, 2, some .int)
def bc_i271 : String × MethodName × ByteArray × Nat × Option FieldType := ("BeastCaveModel", ⟨"BeastCaveModel", "wall", "(II)I"⟩, prog_14_method_78_code, 3, some .int)
def bc_i272 : String × MethodName × ByteArray × Nat × Option FieldType := ("BeastCaveModel", ⟨"BeastCaveModel", "visitor", "(II)I"⟩, prog_14_method_79_code, 3, some .int)
def bc_i273 : String × MethodName × ByteArray × Nat × Option FieldType := ("BeastCaveModel", ⟨"BeastCaveModel", "measure", "(II)I"⟩, prog_14_method_80_code, 3, some .int)
def bc_i274 : String × MethodName × ByteArray × Nat × Option FieldType := ("BeastCaveModel", ⟨"BeastCaveModel", "who", "(I)I"⟩, prog_14_method_81_code, 2, some .int)
def bc_i275 : String × MethodName × ByteArray × Nat × Option FieldType := ("BeastCaveModel", ⟨"BeastCaveModel", "figure", "(II)I"⟩, prog_14_method_82_code, 3, some .int)
def bc_i276 : String × MethodName × ByteArray × Nat × Option FieldType := ("BeastCaveModel", ⟨"BeastCaveModel", "weight", "(II)I"⟩, prog_14_method_83_code, 3, some .int)
def bc_i277 : String × MethodName × ByteArray × Nat × Option FieldType := ("BeastCaveModel", ⟨"BeastCaveModel", "looksAt", "(II)V"⟩, prog_14_method_84_code, 6, none)
def bc_i278 : String × MethodName × ByteArray × Nat × Option FieldType := ("BeastCaveModel", ⟨"BeastCaveModel", "minuteGoes", "()I"⟩, prog_14_method_85_code, 4, some .int)
def bc_i279 : String × MethodName × ByteArray × Nat × Option FieldType := ("BeastCaveModel", ⟨"BeastCaveModel", "minutesGo", "(I)I"⟩, prog_14_method_86_code, 4, some .int)
def bc_i280 : String × MethodName × ByteArray × Nat × Option FieldType := ("BeastCaveModel", ⟨"BeastCaveModel", "minute", "(I)I"⟩, prog_14_method_87_code, 2, some .int)
def bc_i281 : String × MethodName × ByteArray × Nat × Option FieldType := ("BeastCaveModel", ⟨"BeastCaveModel", "wayOf", "(II)I"⟩, prog_14_method_88_code, 7, some .int)
def bc_i282 : String × MethodName × ByteArray × Nat × Option FieldType := ("BeastCaveModel", ⟨"BeastCaveModel", "leads", "(II)Z"⟩, prog_14_method_89_code, 5, some .boolean)
def bc_i283 : String × MethodName × ByteArray × Nat × Option FieldType := ("BeastCaveModel", ⟨"BeastCaveModel", "lead", "(II)I"⟩, prog_14_method_90_code, 3, some .int)
def bc_i284 : String × MethodName × ByteArray × Nat × Option FieldType := ("BeastCaveModel", ⟨"BeastCaveModel", "wakes", "(I)Z"⟩, prog_14_method_91_code, 3, some .boolean)
def bc_i285 : String × MethodName × ByteArray × Nat × Option FieldType := ("BeastCaveModel", ⟨"BeastCaveModel", "wake", "(I)I"⟩, prog_14_method_92_code, 2, some .int)
def bc_i286 : String × MethodName × ByteArray × Nat × Option FieldType := ("BeastCaveModel", ⟨"BeastCaveModel", "fills", "(I)Z"⟩, prog_14_method_93_code, 2, some .boolean)
def bc_i287 : String × MethodName × ByteArray × Nat × Option FieldType := ("BeastCaveModel", ⟨"BeastCaveModel", "fill", "(I)I"⟩, prog_14_method_94_code, 2, some .int)
def bc_i288 : String × MethodName × ByteArray × Nat × Option FieldType := ("BeastCaveModel", ⟨"BeastCaveModel", "paint", "(III)Z"⟩, prog_14_method_95_code, 4, some .boolean)
def bc_i289 : String × MethodName × ByteArray × Nat × Option FieldType := ("BeastCaveModel", ⟨"BeastCaveModel", "scrub", "(I)I"⟩, prog_14_method_96_code, 3, some .int)
def bc_i290 : String × MethodName × ByteArray × Nat × Option FieldType := ("BeastCaveModel", ⟨"BeastCaveModel", "come", "(II)I"⟩, prog_14_method_97_code, 5, some .int)
def bc_i291 : String × MethodName × ByteArray × Nat × Option FieldType := ("BeastCaveModel", ⟨"BeastCaveModel", "draw", "(III)I"⟩, prog_14_method_98_code, 5, some .int)
def bc_i292 : String × MethodName × ByteArray × Nat × Option FieldType := ("BeastCaveModel", ⟨"BeastCaveModel", "cover", "(II)Z"⟩, prog_14_method_99_code, 3, some .boolean)
def bc_i293 : String × MethodName × ByteArray × Nat × Option FieldType := ("BeastCaveModel", ⟨"BeastCaveModel", "rule", "(I)Z"⟩, prog_14_method_100_code, 2, some .boolean)
def bc_i294 : String × MethodName × ByteArray × Nat × Option FieldType := ("BeastCaveModel", ⟨"BeastCaveModel", "levelAt", "(I)I"⟩, prog_14_method_101_code, 1, some .int)
def bc_i295 : String × MethodName × ByteArray × Nat × Option FieldType := ("BeastCaveModel", ⟨"BeastCaveModel", "keeps", "(I)V"⟩, prog_14_method_102_code, 3, none)
def bc_i296 : String × MethodName × ByteArray × Nat × Option FieldType := ("BeastCaveModel", ⟨"BeastCaveModel", "restores", "(I)V"⟩, prog_14_method_103_code, 3, none)
def bc_i297 : String × MethodName × ByteArray × Nat × Option FieldType := ("BeastCaveModel", ⟨"BeastCaveModel", "isSpan", "(I)Z"⟩, prog_14_method_104_code, 1, some .boolean)
def bc_i298 : String × MethodName × ByteArray × Nat × Option FieldType := ("BeastCaveModel", ⟨"BeastCaveModel", "measureIn", "(III)I"⟩, prog_14_method_105_code, 5, some .int)
def bc_i299 : String × MethodName × ByteArray × Nat × Option FieldType := ("BeastCaveModel", ⟨"BeastCaveModel", "whoIn", "(II)I"⟩, prog_14_method_106_code, 4, some .int)
def bc_i300 : String × MethodName × ByteArray × Nat × Option FieldType := ("BeastCaveModel", ⟨"BeastCaveModel", "turnIn", "(I)I"⟩, prog_14_method_107_code, 4, some .int)
def bc_i301 : String × MethodName × ByteArray × Nat × Option FieldType := ("BeastCaveModel", ⟨"BeastCaveModel", "freeIn", "()I"⟩, prog_14_method_108_code, 3, some .int)
def bc_i302 : String × MethodName × ByteArray × Nat × Option FieldType := ("BeastCaveModel", ⟨"BeastCaveModel", "safe", "(II)I"⟩, prog_14_method_109_code, 3, some .int)
def bc_i303 : String × MethodName × ByteArray × Nat × Option FieldType := ("BeastCaveModel", ⟨"BeastCaveModel", "laysFar", "()V"⟩, prog_14_method_110_code, 5, none)
def bc_i304 : String × MethodName × ByteArray × Nat × Option FieldType := ("BeastCaveModel", ⟨"BeastCaveModel", "far", "(II)I"⟩, prog_14_method_111_code, 4, some .int)
def bc_i305 : String × MethodName × ByteArray × Nat × Option FieldType := ("BeastCaveModel", ⟨"BeastCaveModel", "near", "(I)I"⟩, prog_14_method_112_code, 4, some .int)
def bc_i306 : String × MethodName × ByteArray × Nat × Option FieldType := ("BeastCaveModel", ⟨"BeastCaveModel", "visits", "(III)Z"⟩, prog_14_method_113_code, 6, some .boolean)
def bc_i307 : String × MethodName × ByteArray × Nat × Option FieldType := ("BeastCaveModel", ⟨"BeastCaveModel", "isTried", "(I)Z"⟩, prog_14_method_114_code, 3, some .boolean)
def bc_i308 : String × MethodName × ByteArray × Nat × Option FieldType := ("BeastCaveModel", ⟨"BeastCaveModel", "laysTour", "(III)V"⟩, prog_14_method_115_code, 9, none)
def bc_i309 : String × MethodName × ByteArray × Nat × Option FieldType := ("BeastCaveModel", ⟨"BeastCaveModel", "wrongTour", "(III)I"⟩, prog_14_method_116_code, 4, some .int)
def bc_i310 : String × MethodName × ByteArray × Nat × Option FieldType := ("BeastCaveModel", ⟨"BeastCaveModel", "tour", "(III)I"⟩, prog_14_method_117_code, 5, some .int)
def bc_i311 : String × MethodName × ByteArray × Nat × Option FieldType := ("BeastCaveModel", ⟨"BeastCaveModel", "tourAt", "(IIII)I"⟩, prog_14_method_118_code, 6, some .int)
def bc_i312 : String × MethodName × ByteArray × Nat × Option FieldType := ("BeastCaveModel", ⟨"BeastCaveModel", "mayCome", "(II)Z"⟩, prog_14_method_119_code, 3, some .boolean)
def bc_i313 : String × MethodName × ByteArray × Nat × Option FieldType := ("BeastCaveModel", ⟨"BeastCaveModel", "laysLayers", "()I"⟩, prog_14_method_120_code, 4, some .int)
def bc_i314 : String × MethodName × ByteArray × Nat × Option FieldType := ("BeastCaveModel", ⟨"BeastCaveModel", "layers", "()I"⟩, prog_14_method_121_code, 1, some .int)
def bc_i315 : String × MethodName × ByteArray × Nat × Option FieldType := ("BeastCaveModel", ⟨"BeastCaveModel", "layerAt", "(I)I"⟩, prog_14_method_122_code, 5, some .int)
def bc_i316 : String × MethodName × ByteArray × Nat × Option FieldType := ("BeastCaveModel", ⟨"BeastCaveModel", "low", "(I)I"⟩, prog_14_method_123_code, 5, some .int)
def bc_i317 : String × MethodName × ByteArray × Nat × Option FieldType := ("BeastCaveModel", ⟨"BeastCaveModel", "differ", "(II)I"⟩, prog_14_method_124_code, 5, some .int)
def bc_i318 : String × MethodName × ByteArray × Nat × Option FieldType := ("BeastCaveModel", ⟨"BeastCaveModel", "isHand", "(II)Z"⟩, prog_14_method_125_code, 5, some .boolean)
def bc_i319 : String × MethodName × ByteArray × Nat × Option FieldType := ("BeastCaveModel", ⟨"BeastCaveModel", "hands", "(I)I"⟩, prog_14_method_126_code, 5, some .int)
def bc_i320 : String × MethodName × ByteArray × Nat × Option FieldType := ("BeastCaveModel", ⟨"BeastCaveModel", "hand", "(I)I"⟩, prog_14_method_127_code, 4, some .int)
def bc_i321 : String × MethodName × ByteArray × Nat × Option FieldType := ("BeastCaveModel", ⟨"BeastCaveModel", "laysRows", "(I)V"⟩, prog_14_method_128_code, 5, none)
def bc_i322 : String × MethodName × ByteArray × Nat × Option FieldType := ("BeastCaveModel", ⟨"BeastCaveModel", "rows", "(I)J"⟩, prog_14_method_129_code, 5, some .long)
def bc_i323 : String × MethodName × ByteArray × Nat × Option FieldType := ("BeastCaveModel", ⟨"BeastCaveModel", "rowsTo", "(II)J"⟩, prog_14_method_130_code, 3, some .long)
def bc_i324 : String × MethodName × ByteArray × Nat × Option FieldType := ("BeastCaveModel", ⟨"BeastCaveModel", "laysLikeliest", "(I)I"⟩, prog_14_method_131_code, 5, some .int)
def bc_i325 : String × MethodName × ByteArray × Nat × Option FieldType := ("BeastCaveModel", ⟨"BeastCaveModel", "likeliest", "(I)I"⟩, prog_14_method_132_code, 3, some .int)
def bc_i326 : String × MethodName × ByteArray × Nat × Option FieldType := ("BeastCaveModel", ⟨"BeastCaveModel", "likeliestAt", "(II)I"⟩, prog_14_method_133_code, 6, some .int)
def bc_i327 : String × MethodName × ByteArray × Nat × Option FieldType := ("BeastCaveModel", ⟨"BeastCaveModel", "wrongSeen", "(III)I"⟩, prog_14_method_134_code, 6, some .int)
def bc_i328 : String × MethodName × ByteArray × Nat × Option FieldType := ("BeastCaveModel", ⟨"BeastCaveModel", "wouldBe", "(II)I"⟩, prog_14_method_135_code, 3, some .int)
def bc_i329 : String × MethodName × ByteArray × Nat × Option FieldType := ("BeastCaveModel", ⟨"BeastCaveModel", "laysFits", "(III)V"⟩, prog_14_method_136_code, 7, none)
def bc_i330 : String × MethodName × ByteArray × Nat × Option FieldType := ("BeastCaveModel", ⟨"BeastCaveModel", "fits", "(III)I"⟩, prog_14_method_137_code, 5, some .int)
def bc_i331 : String × MethodName × ByteArray × Nat × Option FieldType := ("BeastCaveModel", ⟨"BeastCaveModel", "fitsAt", "(IIII)I"⟩, prog_14_method_138_code, 7, some .int)
def bc_i332 : String × MethodName × ByteArray × Nat × Option FieldType := ("BeastCaveModel", ⟨"BeastCaveModel", "mostAlike", "(I)I"⟩, prog_14_method_139_code, 5, some .int)
def bc_i333 : String × MethodName × ByteArray × Nat × Option FieldType := ("BeastCaveModel", ⟨"BeastCaveModel", "ask", "(III)I"⟩, prog_14_method_140_code, 7, some .int)
def bc_i334 : String × MethodName × ByteArray × Nat × Option FieldType := ("BeastCaveModel", ⟨"BeastCaveModel", "settles", "(II)V"⟩, prog_14_method_141_code, 4, none)
def bc_i335 : String × MethodName × ByteArray × Nat × Option FieldType := ("BeastCaveModel", ⟨"BeastCaveModel", "doesDeed", "(IIZ)Z"⟩, prog_14_method_142_code, 4, some .boolean)
def bc_i336 : String × MethodName × ByteArray × Nat × Option FieldType := ("BeastCaveModel", ⟨"BeastCaveModel", "standing", "(I)I"⟩, prog_14_method_143_code, 2, some .int)
def bc_i337 : String × MethodName × ByteArray × Nat × Option FieldType := ("BeastCaveModel", ⟨"BeastCaveModel", "playing", "(II)I"⟩, prog_14_method_144_code, 4, some .int)
def bc_i338 : String × MethodName × ByteArray × Nat × Option FieldType := ("BeastCaveModel", ⟨"BeastCaveModel", "game", "(II)I"⟩, prog_14_method_145_code, 3, some .int)
def bc_i339 : String × MethodName × ByteArray × Nat × Option FieldType := ("BeastCaveModel", ⟨"BeastCaveModel", "moveOf", "(II)I"⟩, prog_14_method_146_code, 3, some .int)
def bc_i340 : String × MethodName × ByteArray × Nat × Option FieldType := ("BeastCaveModel", ⟨"BeastCaveModel", "flicker", "(II)Z"⟩, prog_14_method_147_code, 8, some .boolean)
def bc_i341 : String × MethodName × ByteArray × Nat × Option FieldType := ("BeastCaveModel", ⟨"BeastCaveModel", "copyMost", "(I)I"⟩, prog_14_method_148_code, 3, some .int)
def bc_i342 : String × MethodName × ByteArray × Nat × Option FieldType := ("BeastCaveModel", ⟨"BeastCaveModel", "drawing", "(I)I"⟩, prog_14_method_149_code, 2, some .int)
def bc_i343 : String × MethodName × ByteArray × Nat × Option FieldType := ("BeastCaveModel", ⟨"BeastCaveModel", "minutesBy", "(I)Z"⟩, prog_14_method_150_code, 2, some .boolean)
def bc_i344 : String × MethodName × ByteArray × Nat × Option FieldType := ("BeastCaveModel", ⟨"BeastCaveModel", "leadsBy", "(II)Z"⟩, prog_14_method_151_code, 3, some .boolean)
def bc_i345 : String × MethodName × ByteArray × Nat × Option FieldType := ("BeastCaveModel", ⟨"BeastCaveModel", "leadsAny", "()Z"⟩, prog_14_method_152_code, 2, some .boolean)
def bc_i346 : String × MethodName × ByteArray × Nat × Option FieldType := ("BeastCaveModel", ⟨"BeastCaveModel", "does", "(I)Z"⟩, prog_14_method_153_code, 3, some .boolean)
def bc_i347 : String × MethodName × ByteArray × Nat × Option FieldType := ("BeastCaveModel", ⟨"BeastCaveModel", "holds", "(I)Z"⟩, prog_14_method_154_code, 5, some .boolean)
def bc_i348 : String × MethodName × ByteArray × Nat × Option FieldType := ("BeastCaveModel", ⟨"BeastCaveModel", "behindEnds", "(I)I"⟩, prog_14_method_155_code, 5, some .int)
def bc_i349 : String × MethodName × ByteArray × Nat × Option FieldType := ("BeastCaveModel", ⟨"BeastCaveModel", "lives", "(I)V"⟩, prog_14_method_156_code, 4, none)
def bc_i350 : String × MethodName × ByteArray × Nat × Option FieldType := ("BeastCaveModel", ⟨"BeastCaveModel", "live", "(I)I"⟩, prog_14_method_157_code, 3, some .int)
def bc_i351 : String × MethodName × ByteArray × Nat × Option FieldType := ("BeastCaveModel", ⟨"BeastCaveModel", "lived", "(I)I"⟩, prog_14_method_158_code, 2, some .int)
def bc_i352 : String × MethodName × ByteArray × Nat × Option FieldType := ("BeastCaveModel", ⟨"BeastCaveModel", "mean", "(II)Z"⟩, prog_14_method_159_code, 6, some .boolean)
def bc_i353 : String × MethodName × ByteArray × Nat × Option FieldType := ("BeastCaveModel", ⟨"BeastCaveModel", "copies", "(II)V"⟩, prog_14_method_160_code, 4, none)
def bc_i354 : String × MethodName × ByteArray × Nat × Option FieldType := ("BeastCaveModel", ⟨"BeastCaveModel", "mark", "()I"⟩, prog_14_method_161_code, 1, some .int)
def bc_i355 : String × MethodName × ByteArray × Nat × Option FieldType := ("BeastCaveModel", ⟨"BeastCaveModel", "undo", "()I"⟩, prog_14_method_162_code, 1, some .int)
def bc_i356 : String × MethodName × ByteArray × Nat × Option FieldType := ("java/lang/Integer", ⟨"java/lang/Integer", "bitCount", "(I)I"⟩, prog_15_method_49_code, 1, some .int)
def bc_i357 : String × MethodName × ByteArray × Nat × Option FieldType := ("java/lang/Long", ⟨"java/lang/Long", "bitCount", "(J)I"⟩, prog_16_method_50_code, 2, some .int)
def bc_i358 : String × MethodName × ByteArray × Nat × Option FieldType := ("java/lang/Math", ⟨"java/lang/Math", "abs", "(I)I"⟩, prog_17_method_59_code, 1, some .int)
def bc_i359 : String × MethodName × ByteArray × Nat × Option FieldType := ("java/lang/Math", ⟨"java/lang/Math", "max", "(II)I"⟩, prog_17_method_65_code, 2, some .int)
def bc_i360 : String × MethodName × ByteArray × Nat × Option FieldType := ("java/lang/Math", ⟨"java/lang/Math", "min", "(II)I"⟩, prog_17_method_69_code, 2, some .int)
def bc_i361 : String × MethodName × ByteArray × Nat × Option FieldType := ("java/util/Arrays", ⟨"java/util/Arrays", "fill", "([II)V"⟩, prog_22_method_103_code, 4, none)
def bc_IT : List (List (String × MethodName × ByteArray × Nat × Option FieldType)) := [[bc_i0, bc_i1, bc_i2, bc_i3, bc_i4, bc_i5, bc_i6, bc_i7, bc_i8, bc_i9, bc_i10, bc_i11, bc_i12, bc_i13, bc_i14, bc_i15],
  [bc_i16, bc_i17, bc_i18, bc_i19, bc_i20, bc_i21, bc_i22, bc_i23, bc_i24, bc_i25, bc_i26, bc_i27, bc_i28, bc_i29, bc_i30, bc_i31],
  [bc_i32, bc_i33, bc_i34, bc_i35, bc_i36, bc_i37, bc_i38, bc_i39, bc_i40, bc_i41, bc_i42, bc_i43, bc_i44, bc_i45, bc_i46, bc_i47],
  [bc_i48, bc_i49, bc_i50, bc_i51, bc_i52, bc_i53, bc_i54, bc_i55, bc_i56, bc_i57, bc_i58, bc_i59, bc_i60, bc_i61, bc_i62, bc_i63],
  [bc_i64, bc_i65, bc_i66, bc_i67, bc_i68, bc_i69, bc_i70, bc_i71, bc_i72, bc_i73, bc_i74, bc_i75, bc_i76, bc_i77, bc_i78, bc_i79],
  [bc_i80, bc_i81, bc_i82, bc_i83, bc_i84, bc_i85, bc_i86, bc_i87, bc_i88, bc_i89, bc_i90, bc_i91, bc_i92, bc_i93, bc_i94, bc_i95],
  [bc_i96, bc_i97, bc_i98, bc_i99, bc_i100, bc_i101, bc_i102, bc_i103, bc_i104, bc_i105, bc_i106, bc_i107, bc_i108, bc_i109, bc_i110, bc_i111],
  [bc_i112, bc_i113, bc_i114, bc_i115, bc_i116, bc_i117, bc_i118, bc_i119, bc_i120, bc_i121, bc_i122, bc_i123, bc_i124, bc_i125, bc_i126, bc_i127],
  [bc_i128, bc_i129, bc_i130, bc_i131, bc_i132, bc_i133, bc_i134, bc_i135, bc_i136, bc_i137, bc_i138, bc_i139, bc_i140, bc_i141, bc_i142, bc_i143],
  [bc_i144, bc_i145, bc_i146, bc_i147, bc_i148, bc_i149, bc_i150, bc_i151, bc_i152, bc_i153, bc_i154, bc_i155, bc_i156, bc_i157, bc_i158, bc_i159],
  [bc_i160, bc_i161, bc_i162, bc_i163, bc_i164, bc_i165, bc_i166, bc_i167, bc_i168, bc_i169, bc_i170, bc_i171, bc_i172, bc_i173, bc_i174, bc_i175],
  [bc_i176, bc_i177, bc_i178, bc_i179, bc_i180, bc_i181, bc_i182, bc_i183, bc_i184, bc_i185, bc_i186, bc_i187, bc_i188, bc_i189, bc_i190, bc_i191],
  [bc_i192, bc_i193, bc_i194, bc_i195, bc_i196, bc_i197, bc_i198, bc_i199, bc_i200, bc_i201, bc_i202, bc_i203, bc_i204, bc_i205, bc_i206, bc_i207],
  [bc_i208, bc_i209, bc_i210, bc_i211, bc_i212, bc_i213, bc_i214, bc_i215, bc_i216, bc_i217, bc_i218, bc_i219, bc_i220, bc_i221, bc_i222, bc_i223],
  [bc_i224, bc_i225, bc_i226, bc_i227, bc_i228, bc_i229, bc_i230, bc_i231, bc_i232, bc_i233, bc_i234, bc_i235, bc_i236, bc_i237, bc_i238, bc_i239],
  [bc_i240, bc_i241, bc_i242, bc_i243, bc_i244, bc_i245, bc_i246, bc_i247, bc_i248, bc_i249, bc_i250, bc_i251, bc_i252, bc_i253, bc_i254, bc_i255],
  [bc_i256, bc_i257, bc_i258, bc_i259, bc_i260, bc_i261, bc_i262, bc_i263, bc_i264, bc_i265, bc_i266, bc_i267, bc_i268, bc_i269, bc_i270, bc_i271],
  [bc_i272, bc_i273, bc_i274, bc_i275, bc_i276, bc_i277, bc_i278, bc_i279, bc_i280, bc_i281, bc_i282, bc_i283, bc_i284, bc_i285, bc_i286, bc_i287],
  [bc_i288, bc_i289, bc_i290, bc_i291, bc_i292, bc_i293, bc_i294, bc_i295, bc_i296, bc_i297, bc_i298, bc_i299, bc_i300, bc_i301, bc_i302, bc_i303],
  [bc_i304, bc_i305, bc_i306, bc_i307, bc_i308, bc_i309, bc_i310, bc_i311, bc_i312, bc_i313, bc_i314, bc_i315, bc_i316, bc_i317, bc_i318, bc_i319],
  [bc_i320, bc_i321, bc_i322, bc_i323, bc_i324, bc_i325, bc_i326, bc_i327, bc_i328, bc_i329, bc_i330, bc_i331, bc_i332, bc_i333, bc_i334, bc_i335],
  [bc_i336, bc_i337, bc_i338, bc_i339, bc_i340, bc_i341, bc_i342, bc_i343, bc_i344, bc_i345, bc_i346, bc_i347, bc_i348, bc_i349, bc_i350, bc_i351],
  [bc_i352, bc_i353, bc_i354, bc_i355, bc_i356, bc_i357, bc_i358, bc_i359, bc_i360, bc_i361]]
def bc_mi (k : Nat) : String × MethodName × ByteArray × Nat × Option FieldType := bc_two bc_IT k ("", ⟨"", "", ""⟩, ⟨#[]⟩, 0, none)
def bc_p0_0 : List (Nat × List Nat) := [(0, [23, 24, 1]), (3, []), (4, [25, 26, 1, 27]), (7, []), (8, [5162, 5163, 17]), (11, []), (12, [5164, 5165, 17, 5166]), (15, []), (16, []), (17, []), (18, []), (19, []), (20, []), (21, []), (23, []), (24, []), (27, []), (28, []), (29, []), (30, []), (32, []), (33, []), (280, []), (281, [2095, 2096, 2097, 1, 2098]), (284, []), (285, [6084, 6085, 6086, 17, 6087]), (288, []), (291, []), (292, []), (293, []), (294, [2099, 2100, 2101, 1, 2102]), (297, []), (298, [6088, 6089, 6090, 17, 6091]), (301, []), (302, []), (305, []), (306, []), (307, []), (308, [2103, 2104, 2105, 1, 2106]), (311, []), (312, [6092, 6093, 6094, 17, 6095]), (315, []), (316, []), (319, []), (320, []), (321, []), (322, []), (323, []), (324, []), (325, []), (326, []), (327, []), (328, []), (329, []), (330, []), (331, []), (332, []), (333, []), (334, []), (335, []), (336, []), (337, [2107, 2108, 2109, 1, 2110]), (340, []), (341, []), (342, []), (343, []), (344, []), (345, []), (346, []), (347, []), (348, []), (349, []), (350, []), (351, []), (352, []), (353, []), (354, []), (355, []), (356, [6096, 6097, 6098, 17, 6099]), (359, []), (362, []), (363, []), (364, []), (365, []), (366, []), (367, []), (368, []), (369, []), (370, []), (371, []), (372, []), (373, []), (374, []), (375, []), (376, []), (377, []), (378, []), (379, []), (380, []), (381, [])]
def bc_p0_1 : List (Nat × List Nat) := [(383, []), (384, []), (385, []), (386, []), (387, []), (388, []), (389, []), (390, [9014]), (393, []), (394, []), (395, [2130, 2131, 2132, 1, 2133]), (398, []), (399, []), (400, []), (401, []), (402, []), (403, []), (404, []), (405, []), (406, []), (407, []), (408, []), (409, []), (410, []), (411, []), (412, []), (413, []), (414, []), (415, []), (417, []), (418, []), (419, []), (420, []), (421, []), (422, []), (423, []), (424, [9014]), (427, []), (428, []), (429, [6107, 6108, 6109, 17, 6110]), (432, []), (435, []), (436, []), (437, []), (438, []), (439, []), (440, []), (441, []), (442, []), (443, []), (444, []), (445, []), (446, []), (447, []), (448, [2153, 2154, 2155, 1, 2156]), (451, []), (452, []), (453, []), (454, []), (455, []), (456, []), (457, []), (458, []), (459, []), (460, []), (461, []), (462, [6118, 6119, 6120, 17, 6121]), (465, []), (466, []), (469, []), (470, []), (471, []), (472, []), (473, []), (474, []), (475, []), (476, []), (477, []), (478, []), (479, []), (480, []), (481, []), (482, []), (483, []), (484, []), (485, []), (486, []), (487, []), (488, []), (489, []), (490, []), (491, []), (492, []), (493, []), (494, []), (495, []), (496, []), (497, [2165, 2166, 2167, 1, 2168]), (500, []), (501, [])]
def bc_p0_2 : List (Nat × List Nat) := [(502, []), (503, []), (504, []), (505, []), (506, []), (507, []), (508, []), (509, []), (510, []), (511, []), (512, []), (513, []), (514, []), (515, []), (516, []), (517, []), (518, []), (519, []), (520, []), (521, []), (522, []), (523, []), (524, []), (525, []), (526, [6123, 6124, 6125, 17, 6126]), (529, []), (532, []), (533, []), (534, []), (535, []), (536, []), (537, []), (538, []), (539, []), (540, []), (541, []), (542, []), (543, []), (544, []), (545, []), (546, []), (547, []), (548, []), (549, []), (550, []), (551, []), (552, []), (553, []), (554, []), (555, []), (556, []), (557, []), (558, []), (559, []), (560, [2180, 2181, 2182, 1, 2183]), (563, []), (564, []), (565, []), (566, []), (567, []), (568, []), (569, []), (570, []), (571, []), (572, []), (573, []), (574, []), (575, []), (576, []), (577, []), (578, []), (579, []), (580, []), (581, []), (582, []), (583, []), (584, []), (585, []), (586, []), (587, []), (588, []), (589, [6127, 6128, 6129, 17, 6130]), (592, []), (595, []), (596, []), (597, []), (598, []), (599, []), (600, []), (601, []), (602, []), (603, [2188, 2189, 2190, 1, 2191]), (606, []), (607, []), (608, []), (609, []), (610, []), (611, []), (612, [6139, 6140, 6141, 17, 6142]), (615, [])]
def bc_p0_3 : List (Nat × List Nat) := [(618, []), (619, []), (620, []), (621, []), (622, []), (623, []), (624, []), (625, []), (626, [3117, 3118, 3119, 1, 3120]), (629, []), (630, []), (631, []), (632, []), (633, []), (634, []), (635, [7039, 7040, 7041, 17, 7042]), (638, []), (641, []), (642, []), (643, []), (644, []), (645, []), (646, []), (647, []), (648, []), (649, [3155, 3156, 3157, 1, 3158]), (652, []), (653, []), (654, []), (655, []), (656, []), (657, []), (658, [6135, 6136, 6137, 17, 6138]), (661, []), (664, []), (665, []), (666, []), (667, []), (668, []), (669, []), (670, []), (671, []), (672, [3159, 3160, 3161, 1, 3162]), (675, []), (676, []), (677, []), (678, []), (679, []), (680, []), (681, [7063, 7064, 7065, 17, 7066]), (684, []), (687, []), (688, []), (689, []), (690, []), (691, []), (692, []), (693, []), (694, []), (695, []), (696, []), (697, []), (698, []), (699, []), (700, [3185, 3186, 3187, 1, 3188]), (703, []), (704, []), (705, []), (706, []), (707, []), (708, []), (709, []), (710, []), (711, []), (712, []), (713, []), (714, [7095, 7096, 7097, 17, 7098]), (717, []), (720, []), (721, []), (722, []), (723, []), (724, []), (725, []), (726, []), (727, []), (728, []), (729, []), (730, []), (731, []), (732, []), (733, [3193, 3194, 3195, 1, 3196]), (736, []), (737, []), (738, []), (739, []), (740, []), (741, []), (742, []), (743, [])]
def bc_p0_4 : List (Nat × List Nat) := [(744, []), (745, []), (746, []), (747, [7103, 7104, 7105, 17, 7106]), (750, []), (753, []), (754, []), (755, []), (756, []), (757, []), (758, []), (759, []), (760, []), (761, []), (762, []), (763, []), (764, []), (765, []), (766, [3205, 3206, 3207, 1, 3208]), (769, []), (770, []), (771, []), (772, []), (773, []), (774, []), (775, []), (776, []), (777, []), (778, []), (779, []), (780, [7111, 7112, 7113, 17, 7114]), (783, []), (786, []), (787, []), (788, []), (789, []), (790, []), (791, []), (792, []), (793, []), (794, [3213, 3214, 3215, 1, 3216]), (797, []), (798, []), (799, []), (800, []), (801, []), (802, []), (803, [7119, 7120, 7121, 17, 7122]), (806, []), (809, []), (810, []), (811, []), (812, []), (813, []), (814, []), (815, []), (816, []), (817, []), (818, []), (819, []), (820, []), (821, []), (822, [3221, 3222, 3223, 1, 3224]), (825, []), (826, []), (827, []), (828, []), (829, []), (830, []), (831, []), (832, []), (833, []), (834, []), (835, []), (836, [7131, 7132, 7133, 17, 7134]), (839, []), (842, []), (843, []), (844, []), (845, []), (846, []), (847, []), (848, []), (849, []), (850, []), (851, []), (852, []), (853, []), (854, []), (855, [3229, 3230, 3231, 1, 3232]), (858, []), (859, []), (860, []), (861, []), (862, []), (863, []), (864, []), (865, []), (866, []), (867, [])]
def bc_p0_5 : List (Nat × List Nat) := [(868, []), (869, [7143, 7144, 7145, 17, 7146]), (872, []), (875, []), (876, []), (877, []), (878, []), (879, []), (880, []), (881, []), (882, []), (883, [3233, 3234, 3235, 1, 3236]), (886, []), (887, []), (888, []), (889, []), (890, []), (891, []), (892, [7151, 7152, 7153, 17, 7154]), (895, []), (898, []), (899, []), (900, []), (901, []), (902, []), (903, []), (904, []), (905, []), (906, []), (907, []), (908, []), (909, []), (910, []), (911, [4011, 4012, 4013, 1, 4014]), (914, []), (915, []), (916, []), (917, []), (918, []), (919, []), (920, []), (921, []), (922, []), (923, []), (924, []), (925, [7175, 7176, 7177, 17, 7178]), (928, []), (931, []), (932, []), (933, []), (934, []), (935, []), (936, []), (937, []), (938, []), (939, [4019, 4020, 4021, 1, 4022]), (942, []), (943, []), (944, []), (945, []), (946, []), (947, []), (948, [7188, 7189, 7190, 17, 7191]), (951, []), (954, []), (955, []), (956, []), (957, []), (958, []), (959, []), (960, []), (961, []), (962, [4028, 4029, 4030, 1, 4031]), (965, []), (966, []), (967, []), (968, []), (969, []), (970, []), (971, [7196, 7197, 7198, 17, 7199]), (974, []), (977, []), (978, []), (979, []), (980, []), (981, []), (982, []), (983, []), (984, []), (985, []), (986, []), (987, []), (988, []), (989, []), (990, []), (991, []), (992, []), (993, []), (994, []), (995, [4036, 4037, 4038, 1, 4039])]
def bc_p0_6 : List (Nat × List Nat) := [(998, []), (999, []), (1000, []), (1001, []), (1002, []), (1003, []), (1004, []), (1005, []), (1006, []), (1007, []), (1008, []), (1009, []), (1010, []), (1011, []), (1012, []), (1013, []), (1014, [7205, 7206, 7207, 17, 7208]), (1017, []), (1020, []), (1021, []), (1022, []), (1023, []), (1024, []), (1025, []), (1026, []), (1027, []), (1028, [4040, 4041, 4042, 1, 4043]), (1031, []), (1032, []), (1033, []), (1034, []), (1035, []), (1036, []), (1037, [7210, 7211, 7212, 17, 7213]), (1040, []), (1043, []), (1044, []), (1045, []), (1046, []), (1047, []), (1048, []), (1049, []), (1050, []), (1051, []), (1052, []), (1053, []), (1054, []), (1055, []), (1056, [4044, 4045, 4046, 1, 4047]), (1059, []), (1060, []), (1061, []), (1062, []), (1063, []), (1064, []), (1065, []), (1066, []), (1067, []), (1068, []), (1069, []), (1070, [7214, 7215, 7216, 17, 7217]), (1073, []), (1076, []), (1077, []), (1078, []), (1079, []), (1080, []), (1081, []), (1082, []), (1083, []), (1084, []), (1085, []), (1086, []), (1087, []), (1088, []), (1089, []), (1090, []), (1091, []), (1092, []), (1093, []), (1094, [4049, 4050, 4051, 1, 4052]), (1097, []), (1098, []), (1099, []), (1100, []), (1101, []), (1102, []), (1103, []), (1104, []), (1105, []), (1106, []), (1107, []), (1108, []), (1109, []), (1110, []), (1111, []), (1112, []), (1113, [7219, 7220, 7221, 17, 7222]), (1116, []), (1119, [])]
def bc_p0_7 : List (Nat × List Nat) := [(1120, []), (1121, []), (1122, []), (1123, []), (1124, []), (1125, []), (1126, []), (1127, []), (1128, []), (1129, []), (1130, []), (1131, []), (1132, [4054, 4055, 4056, 1, 4057]), (1135, []), (1136, []), (1137, []), (1138, []), (1139, []), (1140, []), (1141, []), (1142, []), (1143, []), (1144, []), (1145, []), (1146, [7223, 7224, 7225, 17, 7226]), (1149, []), (1152, []), (1153, []), (1154, []), (1155, []), (1156, []), (1157, []), (1158, []), (1159, []), (1160, [4061, 4062, 4063, 1, 4064]), (1163, []), (1164, []), (1165, []), (1166, []), (1167, []), (1168, []), (1169, [7231, 7232, 7233, 17, 7234]), (1172, []), (1175, []), (1176, []), (1177, []), (1178, []), (1179, []), (1180, []), (1181, []), (1182, []), (1183, []), (1184, []), (1185, []), (1186, []), (1187, []), (1188, []), (1189, []), (1190, []), (1191, []), (1192, []), (1193, [4065, 4066, 4067, 1, 4068]), (1196, []), (1197, []), (1198, []), (1199, []), (1200, []), (1201, []), (1202, []), (1203, []), (1204, []), (1205, []), (1206, []), (1207, []), (1208, []), (1209, []), (1210, []), (1211, []), (1212, [7236, 7237, 7238, 17, 7239]), (1215, []), (1218, []), (1219, []), (1220, []), (1221, []), (1222, []), (1223, []), (1224, []), (1225, []), (1226, []), (1227, []), (1228, []), (1229, []), (1230, []), (1231, [4079, 4080, 4081, 1, 4082]), (1234, []), (1235, []), (1236, []), (1237, []), (1238, []), (1239, [])]
def bc_p0_8 : List (Nat × List Nat) := [(1240, []), (1241, []), (1242, []), (1243, []), (1244, []), (1245, [8012, 8013, 8014, 17, 8015]), (1248, []), (1251, []), (1252, []), (1253, []), (1254, []), (1255, []), (1256, []), (1257, []), (1258, []), (1259, [4083, 4084, 4085, 1, 4086]), (1262, []), (1263, []), (1264, []), (1265, []), (1266, []), (1267, []), (1268, [8016, 8017, 8018, 17, 8019]), (1271, []), (1274, []), (1275, []), (1276, []), (1277, [4087, 4088, 4089, 1, 4090]), (1280, []), (1281, [8020, 8021, 8022, 17, 8023]), (1284, []), (1287, []), (1288, []), (1289, []), (1290, []), (1291, []), (1292, []), (1293, []), (1294, []), (1295, []), (1296, []), (1297, []), (1298, []), (1299, []), (1300, [4111, 4112, 4113, 1, 4114]), (1303, []), (1304, []), (1305, []), (1306, []), (1307, []), (1308, []), (1309, []), (1310, []), (1311, []), (1312, []), (1313, []), (1314, [8024, 8025, 8026, 17, 8027]), (1317, []), (1320, []), (1321, []), (1322, []), (1323, []), (1324, []), (1325, []), (1326, []), (1327, []), (1328, []), (1329, []), (1330, []), (1331, []), (1332, []), (1333, [4120, 4121, 4122, 1, 4123]), (1336, []), (1337, []), (1338, []), (1339, []), (1340, []), (1341, []), (1342, []), (1343, []), (1344, []), (1345, []), (1346, []), (1347, [8028, 8029, 8030, 17, 8031]), (1350, []), (1353, []), (1354, []), (1355, []), (1356, []), (1357, []), (1358, []), (1359, []), (1360, []), (1361, [4124, 4125, 4126, 1, 4127]), (1364, []), (1365, []), (1366, []), (1367, []), (1368, []), (1369, [])]
def bc_p0_9 : List (Nat × List Nat) := [(1370, [8036, 8037, 8038, 17, 8039]), (1373, []), (1376, []), (1377, []), (1378, []), (1379, []), (1380, []), (1381, []), (1382, []), (1383, []), (1384, []), (1385, []), (1386, []), (1387, []), (1388, []), (1389, []), (1390, []), (1391, []), (1392, []), (1393, []), (1394, [4132, 4133, 4134, 1, 4135]), (1397, []), (1398, []), (1399, []), (1400, []), (1401, []), (1402, []), (1403, []), (1404, []), (1405, []), (1406, []), (1407, []), (1408, []), (1409, []), (1410, []), (1411, []), (1412, []), (1413, [8040, 8041, 8042, 17, 8043]), (1416, []), (1419, []), (1420, []), (1421, []), (1422, []), (1423, []), (1424, []), (1425, []), (1426, []), (1427, []), (1428, []), (1429, []), (1430, []), (1431, []), (1432, []), (1433, []), (1434, []), (1435, []), (1436, []), (1437, []), (1438, []), (1439, []), (1440, []), (1441, []), (1442, [4161, 4162, 4163, 1, 4164]), (1445, []), (1446, []), (1447, []), (1448, []), (1449, []), (1450, []), (1451, []), (1452, []), (1453, []), (1454, []), (1455, []), (1456, []), (1457, []), (1458, []), (1459, []), (1460, []), (1461, []), (1462, []), (1463, []), (1464, []), (1465, []), (1466, [8063, 8064, 8065, 17, 8066]), (1469, []), (1472, []), (1473, []), (1474, []), (1475, [4165, 4166, 4167, 1, 4168]), (1478, []), (1479, [8067, 8068, 8069, 17, 8070]), (1482, []), (1485, []), (1486, []), (1487, []), (1488, []), (1489, []), (1490, []), (1491, [])]
def bc_p0_10 : List (Nat × List Nat) := [(1492, []), (1493, [4173, 4174, 4175, 1, 4176]), (1496, []), (1497, []), (1498, []), (1499, []), (1500, []), (1501, []), (1502, [8079, 8080, 8081, 17, 8082]), (1505, []), (1508, []), (1509, []), (1510, []), (1511, []), (1512, []), (1513, []), (1514, []), (1515, []), (1516, [4182, 4183, 4184, 1, 4185]), (1519, []), (1520, []), (1521, []), (1522, []), (1523, []), (1524, []), (1525, [8083, 8084, 8085, 17, 8086]), (1528, []), (1531, []), (1532, []), (1533, []), (1534, []), (1535, []), (1536, []), (1537, []), (1538, []), (1539, [4190, 4191, 4192, 1, 4193]), (1542, []), (1543, []), (1544, []), (1545, []), (1546, []), (1547, []), (1548, [8087, 8088, 8089, 17, 8090]), (1551, []), (1554, []), (1555, []), (1556, []), (1557, []), (1558, []), (1559, []), (1560, []), (1561, []), (1562, [4210, 4211, 4212, 1, 4213]), (1565, []), (1566, []), (1567, []), (1568, []), (1569, []), (1570, []), (1571, [8100, 8101, 8102, 17, 8103]), (1574, []), (1577, []), (1578, []), (1579, []), (1580, []), (1581, []), (1582, []), (1583, []), (1584, []), (1585, [4219, 4220, 4221, 1, 4222]), (1588, []), (1589, []), (1590, []), (1591, []), (1592, []), (1593, []), (1594, [8104, 8105, 8106, 17, 8107]), (1597, []), (1598, []), (1601, []), (1602, []), (1603, []), (1604, []), (1605, []), (1606, []), (1607, []), (1608, []), (1609, []), (1610, []), (1611, []), (1612, []), (1613, []), (1614, [4227, 4228, 4229, 1, 4230]), (1617, []), (1618, []), (1619, []), (1620, []), (1621, []), (1622, []), (1623, [])]
def bc_p0_11 : List (Nat × List Nat) := [(1624, []), (1625, []), (1626, []), (1627, []), (1628, [8113, 8114, 8115, 17, 8116]), (1631, []), (1632, []), (1635, []), (1636, []), (1637, []), (1638, []), (1639, []), (1640, []), (1641, []), (1642, []), (1643, [4231, 4232, 4233, 1, 4234]), (1646, []), (1647, []), (1648, []), (1649, []), (1650, []), (1651, []), (1652, [8117, 8118, 8119, 17, 8120]), (1655, []), (1658, []), (1659, []), (1660, []), (1661, []), (1662, []), (1663, []), (1664, []), (1665, []), (1666, []), (1667, []), (1668, []), (1669, []), (1670, []), (1671, [5000, 5001, 5002, 1, 5003]), (1674, []), (1675, []), (1676, []), (1677, []), (1678, []), (1679, []), (1680, []), (1681, []), (1682, []), (1683, []), (1684, []), (1685, [8126, 8127, 8128, 17, 8129]), (1688, []), (1691, []), (1692, []), (1693, []), (1694, []), (1695, []), (1696, []), (1697, []), (1698, []), (1699, []), (1700, []), (1701, []), (1702, []), (1703, []), (1704, []), (1705, []), (1706, []), (1707, []), (1708, []), (1709, [5008, 5009, 5010, 1, 5011]), (1712, []), (1713, []), (1714, []), (1715, []), (1716, []), (1717, []), (1718, []), (1719, []), (1720, []), (1721, []), (1722, []), (1723, []), (1724, []), (1725, []), (1726, []), (1727, []), (1728, [8130, 8131, 8132, 17, 8133]), (1731, []), (1734, []), (1735, []), (1736, []), (1737, []), (1738, []), (1739, []), (1740, []), (1741, []), (1742, []), (1743, []), (1744, []), (1745, [])]
def bc_p0_12 : List (Nat × List Nat) := [(1746, []), (1747, []), (1748, []), (1749, []), (1750, []), (1751, []), (1752, []), (1753, []), (1754, []), (1755, []), (1756, []), (1757, [5034, 5035, 5036, 1, 5037]), (1760, []), (1761, []), (1762, []), (1763, []), (1764, []), (1765, []), (1766, []), (1767, []), (1768, []), (1769, []), (1770, []), (1771, []), (1772, []), (1773, []), (1774, []), (1775, []), (1776, []), (1777, []), (1778, []), (1779, []), (1780, []), (1781, [8147, 8148, 8149, 17, 8150]), (1784, []), (1787, []), (1788, []), (1789, []), (1790, []), (1791, []), (1792, []), (1793, []), (1794, []), (1795, []), (1796, []), (1797, []), (1798, []), (1799, []), (1800, []), (1801, []), (1802, []), (1803, []), (1804, []), (1805, [5038, 5039, 5040, 1, 5041]), (1808, []), (1809, []), (1810, []), (1811, []), (1812, []), (1813, []), (1814, []), (1815, []), (1816, []), (1817, []), (1818, []), (1819, []), (1820, []), (1821, []), (1822, []), (1823, []), (1824, [8151, 8152, 8153, 17, 8154]), (1827, []), (1830, []), (1831, []), (1832, []), (1833, []), (1834, []), (1835, []), (1836, []), (1837, []), (1838, []), (1839, []), (1840, []), (1841, []), (1842, []), (1843, [5048, 5049, 5050, 1, 5051]), (1846, []), (1847, []), (1848, []), (1849, []), (1850, []), (1851, []), (1852, []), (1853, []), (1854, []), (1855, []), (1856, []), (1857, [8159, 8160, 8161, 17, 8162]), (1860, []), (1863, [])]
def bc_p0_13 : List (Nat × List Nat) := [(1864, []), (1865, []), (1866, []), (1867, []), (1868, []), (1869, []), (1870, []), (1871, []), (1872, []), (1873, []), (1874, []), (1875, []), (1876, [5074, 5075, 5076, 1, 5077]), (1879, []), (1880, []), (1881, []), (1882, []), (1883, []), (1884, []), (1885, []), (1886, []), (1887, []), (1888, []), (1889, []), (1890, [8180, 8181, 8182, 17, 8183]), (1893, []), (1896, []), (1897, []), (1898, []), (1899, []), (1900, []), (1901, []), (1902, []), (1903, []), (1904, []), (1905, []), (1906, []), (1907, []), (1908, []), (1909, [5078, 5079, 5080, 1, 5081]), (1912, []), (1913, []), (1914, []), (1915, []), (1916, []), (1917, []), (1918, []), (1919, []), (1920, []), (1921, []), (1922, []), (1923, [8184, 8185, 8186, 17, 8187]), (1926, []), (1929, []), (1930, []), (1931, []), (1932, []), (1933, []), (1934, []), (1935, []), (1936, []), (1937, [5092, 5093, 5094, 1, 5095]), (1940, []), (1941, []), (1942, []), (1943, []), (1944, []), (1945, []), (1946, [8192, 8193, 8194, 17, 8195]), (1949, []), (1952, []), (1953, []), (1954, []), (1955, []), (1956, []), (1957, []), (1958, []), (1959, []), (1960, [5096, 5097, 5098, 1, 5099]), (1963, []), (1964, []), (1965, []), (1966, []), (1967, []), (1968, []), (1969, [8196, 8197, 8198, 17, 8199]), (1972, []), (1975, []), (1976, []), (1977, []), (1978, []), (1979, []), (1980, []), (1981, []), (1982, []), (1983, [5141, 5142, 5143, 1, 5144]), (1986, []), (1987, []), (1988, []), (1989, [])]
def bc_p0_14 : List (Nat × List Nat) := [(1990, []), (1991, []), (1992, [8234, 8235, 8236, 17, 8237]), (1995, []), (1998, []), (1999, []), (2000, []), (2001, []), (2002, []), (2003, []), (2004, []), (2005, []), (2006, []), (2007, []), (2008, []), (2009, []), (2010, []), (2011, [5145, 5146, 5147, 1, 5148]), (2014, []), (2015, []), (2016, []), (2017, []), (2018, []), (2019, []), (2020, []), (2021, []), (2022, []), (2023, []), (2024, []), (2025, [8238, 8239, 9000, 17, 9001]), (2028, []), (2031, []), (2032, []), (2033, []), (2034, [5149, 5150, 5151, 1, 5152]), (2037, []), (2038, [9002, 9003, 9004, 17, 9005]), (2041, []), (2044, []), (2045, []), (2046, []), (2047, [5158, 5159, 5160, 1, 5161]), (2050, []), (2051, [9010, 9011, 9012, 17, 9013]), (2054, []), (2057, []), (2058, []), (2059, []), (2062, []), (2065, []), (2066, [])]
def bc_p0 : List (Nat × List Nat) := bc_p0_0 ++ (bc_p0_1 ++ (bc_p0_2 ++ (bc_p0_3 ++ (bc_p0_4 ++ (bc_p0_5 ++ (bc_p0_6 ++ (bc_p0_7 ++ (bc_p0_8 ++ (bc_p0_9 ++ (bc_p0_10 ++ (bc_p0_11 ++ (bc_p0_12 ++ (bc_p0_13 ++ (bc_p0_14))))))))))))))
def bc_p1 : List (Nat × List Nat) := [(0, []), (1, [1001, 29, 30]), (4, []), (5, []), (6, [47]), (8, [1002]), (11, []), (12, []), (15, [47]), (17, [1004]), (20, []), (21, []), (24, [47]), (26, [1006]), (29, [])]
def bc_p2 : List (Nat × List Nat) := [(0, []), (1, [1187]), (4, []), (5, []), (6, []), (8, []), (9, [1154]), (12, []), (14, []), (15, [1192]), (18, []), (19, []), (20, []), (22, []), (23, [1196]), (26, []), (27, []), (28, []), (29, []), (30, [1002]), (33, []), (34, [4073, 4074, 12, 4075]), (37, []), (38, []), (40, []), (42, []), (43, []), (46, []), (48, []), (51, []), (54, []), (56, []), (59, []), (61, []), (63, []), (66, []), (68, []), (70, []), (73, []), (74, []), (77, []), (78, []), (80, []), (81, [1002]), (84, []), (85, []), (87, []), (90, []), (91, [1176]), (94, [1096]), (97, []), (99, []), (100, []), (103, []), (104, []), (105, [1176]), (108, [1101]), (111, []), (113, []), (114, [4076, 4002, 12, 4003]), (117, []), (118, [1004]), (121, []), (123, []), (124, [1002]), (127, []), (128, [4077, 3176, 12, 3177]), (131, []), (132, []), (133, [1006]), (136, []), (138, []), (139, [1002]), (142, []), (143, [4078, 3219, 12, 3220]), (146, []), (147, []), (150, []), (153, [])]
def bc_p3 : List (Nat × List Nat) := [(0, []), (1, []), (2, [4119, 3172, 3173, 12, 3174]), (5, []), (8, []), (9, []), (10, []), (11, [1196]), (14, []), (15, []), (16, []), (17, []), (18, [1002]), (21, []), (22, [4073, 4074, 12, 4075]), (25, []), (26, []), (28, []), (30, []), (32, []), (35, []), (36, [1002]), (39, []), (40, []), (41, [1176]), (44, [1096]), (47, []), (48, []), (49, []), (50, [1176]), (53, [1101]), (56, []), (57, []), (58, [4076, 4002, 12, 4003]), (61, []), (62, [1002]), (65, []), (66, [4077, 3176, 12, 3177]), (69, []), (70, [1184]), (73, []), (74, []), (75, []), (78, []), (80, []), (81, []), (84, []), (87, []), (89, [])]
def bc_p4 : List (Nat × List Nat) := [(0, []), (1, [1004]), (4, []), (5, []), (6, []), (7, []), (10, []), (11, [1006]), (14, []), (15, []), (16, []), (19, []), (20, [1170]), (23, [1071]), (26, [])]
def bc_p5 : List (Nat × List Nat) := [(0, []), (1, []), (2, []), (3, []), (6, [5021, 4070, 4071, 10, 4072]), (9, []), (10, []), (12, []), (13, []), (15, []), (17, []), (19, []), (22, []), (23, []), (25, []), (26, []), (28, []), (30, []), (32, []), (35, []), (37, []), (40, []), (41, []), (43, []), (44, []), (46, []), (47, [5022, 2162, 2163, 2, 2164]), (50, []), (51, []), (53, []), (55, []), (56, []), (59, [5023, 2115, 1, 2116]), (62, []), (65, []), (66, []), (67, []), (69, []), (71, [5024, 5026, 22004, 10, 5027]), (74, []), (75, []), (76, []), (78, []), (79, []), (81, []), (82, []), (83, []), (84, [5022, 2162, 2163, 2, 2164]), (87, []), (88, []), (91, []), (92, []), (95, []), (96, []), (98, []), (101, []), (104, []), (106, []), (108, []), (111, []), (112, []), (114, []), (115, []), (118, []), (119, []), (120, []), (122, []), (125, []), (128, []), (130, [])]
def bc_p6 : List (Nat × List Nat) := [(0, []), (1, []), (2, []), (4, []), (6, []), (7, [5046, 5029, 22, 5030]), (10, []), (12, []), (13, []), (15, []), (17, []), (19, []), (22, []), (23, []), (25, []), (26, []), (28, []), (30, []), (32, []), (35, []), (37, []), (38, []), (40, []), (41, []), (42, []), (43, []), (44, []), (45, []), (48, []), (49, [1004]), (52, []), (54, []), (55, []), (57, []), (60, []), (61, []), (64, []), (65, []), (66, []), (68, []), (71, []), (74, []), (76, []), (78, []), (80, []), (81, [5047, 3179, 20, 3180]), (84, []), (86, []), (88, []), (90, []), (93, []), (95, []), (97, []), (99, []), (100, []), (103, []), (106, []), (107, [])]
def bc_p7 : List (Nat × List Nat) := [(0, []), (1, [1069, 29, 30]), (4, []), (5, []), (7, [47]), (9, [1074]), (12, [])]
def bc_p8 : List (Nat × List Nat) := [(0, []), (1, []), (2, [1070]), (5, []), (6, [1074]), (9, []), (10, [2204, 2205, 19, 2206]), (13, [])]
def bc_p9 : List (Nat × List Nat) := [(0, []), (1, []), (2, [1070]), (5, [1070]), (8, []), (9, [1074]), (12, []), (13, []), (14, [1074]), (17, []), (18, []), (19, [1074]), (22, []), (23, [4099, 2179, 2178, 18]), (26, [])]
def bc_p10 : List (Nat × List Nat) := [(0, []), (1, []), (2, []), (3, []), (4, [1070]), (7, []), (10, []), (11, []), (12, []), (13, []), (14, []), (17, []), (20, []), (21, []), (22, []), (23, []), (24, []), (27, []), (28, []), (30, []), (32, []), (33, [1070]), (36, []), (39, []), (40, []), (42, []), (43, []), (45, []), (47, []), (48, [1070]), (51, []), (54, []), (56, []), (57, [1074]), (60, []), (62, []), (63, []), (64, []), (66, []), (67, []), (68, []), (71, []), (72, []), (74, []), (75, []), (78, []), (79, []), (80, []), (82, []), (85, []), (88, []), (89, []), (90, []), (92, []), (93, []), (95, []), (96, []), (99, []), (102, []), (103, []), (104, []), (105, []), (106, []), (107, [4099, 2179, 2178, 18]), (110, []), (113, []), (116, [])]
def bc_p11 : List (Nat × List Nat) := [(0, []), (1, []), (2, []), (3, []), (5, []), (7, []), (8, []), (11, []), (12, []), (13, []), (14, []), (16, []), (18, []), (19, [1070]), (22, []), (25, []), (27, []), (30, []), (31, []), (34, []), (35, []), (37, []), (38, []), (40, []), (42, []), (43, [1070]), (46, []), (49, []), (51, []), (54, []), (56, []), (57, [1074]), (60, []), (62, []), (63, []), (64, []), (66, []), (67, []), (68, []), (69, []), (71, []), (72, []), (73, []), (74, []), (75, []), (77, []), (78, []), (79, []), (80, [4239, 3179, 20, 3180]), (83, []), (85, []), (88, []), (91, []), (92, []), (94, []), (95, []), (96, []), (98, []), (99, []), (101, []), (102, []), (103, []), (105, [4239, 3179, 20, 3180]), (108, []), (109, []), (112, []), (115, []), (118, []), (121, []), (122, [])]
def bc_p12 : List (Nat × List Nat) := [(0, []), (1, []), (3, []), (4, []), (6, []), (8, []), (9, []), (12, []), (14, []), (15, []), (18, []), (19, []), (21, []), (22, []), (24, []), (25, []), (27, []), (29, []), (30, [1070]), (33, []), (36, []), (38, []), (39, []), (42, []), (43, []), (46, []), (47, [1074]), (50, []), (52, []), (53, []), (54, []), (56, []), (57, []), (58, []), (60, []), (62, []), (63, []), (64, []), (65, []), (66, []), (68, []), (69, []), (70, []), (71, []), (73, []), (74, []), (75, []), (76, []), (78, []), (80, []), (82, []), (85, []), (87, []), (89, []), (91, []), (93, []), (96, []), (99, []), (101, []), (103, []), (106, []), (109, []), (111, [])]
def bc_p13 : List (Nat × List Nat) := [(0, []), (1, [1063, 29, 30]), (4, []), (5, []), (7, [1153]), (10, []), (11, []), (12, [1159]), (15, []), (16, [1064, 1065, 13]), (19, []), (20, [1066, 1067, 13, 1068]), (23, [1169]), (26, []), (27, [1082, 1083, 14]), (30, []), (31, [1084, 1085, 14, 1086]), (34, [1173]), (37, []), (38, [1124, 1125, 15]), (41, []), (42, [1126, 1127, 15, 1128]), (45, [1179]), (48, []), (49, []), (51, [47]), (53, [1182]), (56, []), (57, []), (59, [47]), (61, [1186]), (64, []), (65, []), (67, [47]), (69, [1191]), (72, []), (73, []), (75, [47]), (77, [1195]), (80, []), (81, []), (83, [48]), (85, [1200]), (88, []), (89, []), (91, [47]), (93, [1201]), (96, []), (97, []), (99, [47]), (101, [1202]), (104, [])]
def bc_p14 : List (Nat × List Nat) := [(0, []), (1, []), (3, [1153]), (6, []), (7, []), (8, [1159]), (11, []), (12, []), (13, [1162]), (16, []), (17, []), (18, [1165]), (21, []), (22, []), (23, [1199]), (26, []), (27, [1169]), (30, [2200, 2201, 2202, 13, 2203]), (33, []), (34, [1173]), (37, [2207, 2208, 2209, 14, 2210]), (40, []), (41, [1179]), (44, [2212, 2213, 2214, 15, 2215]), (47, [])]
def bc_p15 : List (Nat × List Nat) := [(0, []), (1, []), (2, [1153]), (5, [1153]), (8, []), (9, []), (10, [1159]), (13, [1159]), (16, []), (17, []), (18, [1162]), (21, [1162]), (24, []), (25, []), (26, [1165]), (29, [1165]), (32, []), (33, [1169]), (36, []), (37, [1169]), (40, [4095, 4096, 4097, 13, 4098]), (43, []), (44, [1173]), (47, []), (48, [1173]), (51, [4100, 4101, 4102, 14, 4103]), (54, []), (55, [1179]), (58, []), (59, [1179]), (62, [4105, 4106, 4107, 15, 4108]), (65, []), (66, [1182]), (69, []), (70, []), (71, [1182]), (74, []), (75, []), (76, [1182]), (79, []), (80, [4110, 2179, 2178, 18]), (83, []), (84, [1186]), (87, []), (88, []), (89, [1186]), (92, []), (93, []), (94, [1186]), (97, []), (98, [4110, 2179, 2178, 18]), (101, []), (102, [1191]), (105, []), (106, []), (107, [1191]), (110, []), (111, []), (112, [1191]), (115, []), (116, [4110, 2179, 2178, 18]), (119, []), (120, [1195]), (123, []), (124, []), (125, [1195]), (128, []), (129, []), (130, [1195]), (133, []), (134, [4110, 2179, 2178, 18]), (137, []), (138, []), (139, [1199]), (142, [1199]), (145, []), (146, [1200]), (149, []), (150, []), (151, [1200]), (154, []), (155, []), (156, [1200]), (159, []), (160, [4110, 2179, 2178, 18]), (163, []), (164, [1201]), (167, []), (168, []), (169, [1201]), (172, []), (173, []), (174, [1201]), (177, []), (178, [4110, 2179, 2178, 18]), (181, []), (182, [1202]), (185, []), (186, []), (187, [1202]), (190, []), (191, []), (192, [1202]), (195, []), (196, [4110, 2179, 2178, 18]), (199, [])]
def bc_p16 : List (Nat × List Nat) := [(0, []), (1, [1199]), (4, []), (6, []), (9, []), (10, [1200]), (13, []), (14, [1199]), (17, []), (18, []), (19, []), (20, [1201]), (23, []), (24, [1199]), (27, []), (28, []), (29, []), (30, [1202]), (33, []), (34, [1199]), (37, []), (39, []), (40, []), (41, []), (42, [1199]), (45, []), (46, []), (47, [1199]), (50, [])]
def bc_p17 : List (Nat × List Nat) := [(0, []), (1, []), (2, []), (3, []), (4, [1199]), (7, []), (10, []), (11, [1200]), (14, []), (15, []), (16, []), (17, []), (18, []), (21, []), (22, []), (23, []), (26, []), (29, []), (30, [])]
def bc_p18 : List (Nat × List Nat) := [(0, []), (1, []), (3, []), (5, []), (6, [1199]), (9, []), (12, []), (13, [1200]), (16, []), (18, []), (19, []), (20, []), (21, []), (24, []), (25, [1201]), (28, []), (30, []), (31, []), (32, []), (35, []), (36, [1202]), (39, []), (41, []), (42, []), (43, []), (46, []), (49, []), (50, [])]
def bc_p19 : List (Nat × List Nat) := [(0, []), (1, []), (3, []), (5, []), (6, []), (9, []), (10, []), (11, []), (13, []), (14, []), (15, []), (16, []), (18, []), (19, []), (20, []), (21, []), (24, []), (27, [])]
def bc_p20 : List (Nat × List Nat) := [(0, []), (1, []), (3, []), (5, []), (6, []), (9, []), (10, []), (11, []), (13, []), (14, []), (15, []), (17, []), (18, []), (19, []), (21, []), (22, []), (24, []), (25, []), (28, []), (30, []), (31, []), (32, []), (34, [4004, 2221, 20, 2222]), (37, []), (40, []), (42, []), (43, []), (44, []), (45, [3178, 3179, 20, 3180]), (48, []), (49, []), (52, []), (55, [])]
def bc_p21 : List (Nat × List Nat) := [(0, []), (1, []), (2, []), (3, []), (4, []), (5, []), (6, []), (9, []), (10, []), (11, []), (12, []), (13, []), (14, []), (15, [3178, 3179, 20, 3180]), (18, []), (19, []), (22, []), (25, []), (26, [])]
def bc_p22 : List (Nat × List Nat) := [(0, []), (1, []), (2, []), (3, []), (4, []), (5, []), (6, []), (9, []), (10, []), (11, []), (12, []), (13, []), (14, []), (15, []), (16, []), (17, []), (18, []), (19, []), (22, []), (23, []), (24, []), (27, []), (30, []), (31, [])]
def bc_p23 : List (Nat × List Nat) := [(0, []), (1, [1182]), (4, []), (5, [1165]), (8, []), (9, []), (10, []), (11, [1186]), (14, []), (15, [1165]), (18, []), (19, []), (20, []), (21, [1191]), (24, []), (25, [1165]), (28, []), (29, []), (30, []), (31, []), (32, []), (33, []), (34, []), (37, []), (38, [1195]), (41, []), (42, [1165]), (45, []), (46, []), (47, []), (48, []), (49, []), (50, []), (51, []), (54, []), (57, []), (58, []), (59, [1165]), (62, []), (63, []), (64, [1165]), (67, [])]
def bc_p24 : List (Nat × List Nat) := [(0, []), (1, [1195]), (4, []), (5, []), (6, []), (7, [3175, 3176, 12, 3177]), (10, [])]
def bc_p25 : List (Nat × List Nat) := [(0, []), (1, [1195]), (4, []), (5, []), (6, []), (7, [3175, 3176, 12, 3177]), (10, []), (11, [1182]), (14, []), (15, []), (16, []), (19, []), (20, []), (23, []), (24, [])]
def bc_p26 : List (Nat × List Nat) := [(0, []), (1, []), (2, []), (3, []), (4, []), (5, []), (6, [1165]), (9, []), (12, []), (13, []), (14, []), (15, [3171, 3172, 3173, 12, 3174]), (18, []), (21, []), (22, []), (23, []), (24, []), (27, []), (28, []), (29, []), (30, []), (33, []), (36, []), (37, [])]
def bc_p27 : List (Nat × List Nat) := [(0, []), (1, []), (2, []), (3, []), (4, []), (5, []), (6, [1165]), (9, []), (12, []), (13, []), (14, [1191]), (17, []), (18, []), (19, []), (22, []), (23, []), (24, []), (25, []), (28, []), (29, []), (30, []), (31, []), (34, []), (37, []), (38, [])]
def bc_p28 : List (Nat × List Nat) := [(0, []), (1, []), (2, []), (3, []), (4, []), (5, []), (6, [1165]), (9, []), (12, []), (13, []), (14, [3171, 3172, 3173, 12, 3174]), (17, []), (18, []), (19, [1191]), (22, []), (23, []), (24, []), (27, []), (28, [1153]), (31, []), (34, []), (35, []), (38, []), (39, []), (41, []), (42, [1195]), (45, []), (46, []), (47, []), (48, []), (50, []), (53, []), (54, [1173]), (57, [1099]), (60, []), (61, [1186]), (64, []), (65, []), (66, []), (67, []), (70, []), (71, []), (72, [1173]), (75, [1104]), (78, []), (79, [1186]), (82, []), (83, []), (84, []), (85, [4001, 4002, 12, 4003]), (88, []), (89, [1191]), (92, []), (93, []), (94, [1191]), (97, []), (98, []), (99, []), (100, []), (101, []), (102, [3178, 3179, 20, 3180]), (105, []), (106, []), (107, []), (108, []), (111, []), (112, []), (113, [3171, 3172, 3173, 12, 3174]), (116, []), (119, []), (120, []), (123, []), (124, []), (125, []), (126, []), (129, []), (132, []), (133, []), (134, [1153]), (137, []), (138, []), (139, []), (140, [3178, 3179, 20, 3180]), (143, [1153]), (146, []), (147, []), (148, [1162]), (151, []), (152, []), (153, [1162]), (156, []), (157, [])]
def bc_p29 : List (Nat × List Nat) := [(0, []), (1, [1173]), (4, [1107]), (7, []), (8, [1186]), (11, []), (12, []), (13, []), (15, []), (16, []), (17, []), (18, []), (19, []), (20, []), (21, []), (24, []), (25, [1191]), (28, []), (29, []), (30, []), (33, []), (34, []), (35, [3171, 3172, 3173, 12, 3174]), (38, []), (41, []), (42, []), (43, []), (44, [1186]), (47, []), (48, []), (49, []), (50, []), (51, [1191]), (54, []), (55, []), (56, []), (57, []), (58, [])]
def bc_p30 : List (Nat × List Nat) := [(0, []), (1, []), (2, [4027, 3202, 3203, 12, 3204]), (5, []), (8, []), (9, []), (10, []), (11, []), (12, []), (13, []), (14, []), (17, []), (18, [1195]), (21, []), (22, []), (23, []), (24, []), (25, []), (26, []), (27, []), (28, []), (29, []), (30, []), (31, []), (34, []), (37, []), (38, [])]
def bc_p31 : List (Nat × List Nat) := [(0, []), (1, [1153]), (4, []), (7, []), (8, []), (9, []), (12, []), (13, []), (14, []), (15, []), (16, [1153]), (19, []), (20, []), (21, [1153]), (24, []), (25, [])]
def bc_p32 : List (Nat × List Nat) := [(0, []), (1, [1239, 29, 30]), (4, []), (5, []), (7, [47]), (9, [2008]), (12, []), (13, []), (15, [47]), (17, [2010]), (20, []), (21, []), (23, [47]), (25, [2012]), (28, []), (29, []), (31, [47]), (33, [2014]), (36, []), (37, []), (39, [47]), (41, [2016]), (44, [])]
def bc_p33 : List (Nat × List Nat) := [(0, []), (1, []), (2, [2000]), (5, []), (6, []), (7, [2003]), (10, []), (11, []), (12, [2006]), (15, [])]
def bc_p34 : List (Nat × List Nat) := [(0, []), (1, []), (2, [2000]), (5, [2000]), (8, []), (9, []), (10, [2003]), (13, [2003]), (16, []), (17, []), (18, [2006]), (21, [2006]), (24, []), (25, [2008]), (28, []), (29, []), (30, [2008]), (33, []), (34, []), (35, [2006]), (38, [5157, 2179, 2178, 18]), (41, []), (42, [2010]), (45, []), (46, []), (47, [2010]), (50, []), (51, []), (52, [2006]), (55, [5157, 2179, 2178, 18]), (58, []), (59, [2012]), (62, []), (63, []), (64, [2012]), (67, []), (68, []), (69, [2006]), (72, [5157, 2179, 2178, 18]), (75, []), (76, [2014]), (79, []), (80, []), (81, [2014]), (84, []), (85, []), (86, [2006]), (89, [5157, 2179, 2178, 18]), (92, []), (93, [2016]), (96, []), (97, []), (98, [2016]), (101, []), (102, []), (103, [2006]), (106, [5157, 2179, 2178, 18]), (109, [])]
def bc_p35 : List (Nat × List Nat) := [(0, []), (1, [2006]), (4, []), (6, []), (9, []), (10, []), (11, []), (12, [2008]), (15, []), (16, [2006]), (19, []), (20, []), (21, []), (22, [2010]), (25, []), (26, [2006]), (29, []), (30, []), (31, []), (32, [2012]), (35, []), (36, [2006]), (39, []), (40, []), (41, []), (42, [2014]), (45, []), (46, [2006]), (49, []), (51, []), (52, []), (53, [2016]), (56, []), (57, [2006]), (60, []), (61, []), (62, []), (63, []), (64, [2006]), (67, []), (68, []), (69, [2006]), (72, []), (73, []), (74, [2003]), (77, []), (78, []), (80, []), (83, []), (84, []), (87, []), (88, []), (89, [2003]), (92, []), (93, [2006]), (96, []), (97, []), (98, [])]
def bc_p36 : List (Nat × List Nat) := [(0, []), (1, []), (2, []), (3, [2006]), (6, []), (7, []), (8, [3139, 2115, 1, 2116]), (11, []), (14, []), (15, []), (16, []), (17, [2006]), (20, []), (21, []), (22, [3139, 2115, 1, 2116]), (25, []), (28, []), (29, [2016]), (32, []), (33, []), (34, []), (35, []), (36, [2016]), (39, []), (40, []), (41, []), (42, [])]
def bc_p37 : List (Nat × List Nat) := [(0, []), (1, [1129, 29, 30]), (4, []), (5, []), (7, [47]), (9, [1133]), (12, []), (13, []), (15, [47]), (17, [1135]), (20, []), (21, []), (23, [47]), (25, [1137]), (28, []), (29, []), (31, [47]), (33, [1139]), (36, [])]
def bc_p38 : List (Nat × List Nat) := [(0, []), (1, []), (2, [1130]), (5, [])]
def bc_p39 : List (Nat × List Nat) := [(0, []), (1, []), (2, [1130]), (5, [1130]), (8, []), (9, [1133]), (12, []), (13, []), (14, [1133]), (17, []), (18, []), (19, [1133]), (22, []), (23, [4109, 2179, 2178, 18]), (26, []), (27, [1135]), (30, []), (31, []), (32, [1135]), (35, []), (36, []), (37, [1135]), (40, []), (41, [4109, 2179, 2178, 18]), (44, []), (45, [1137]), (48, []), (49, []), (50, [1137]), (53, []), (54, []), (55, [1137]), (58, []), (59, [4109, 2179, 2178, 18]), (62, []), (63, [1139]), (66, []), (67, []), (68, [1139]), (71, []), (72, []), (73, [1139]), (76, []), (77, [4109, 2179, 2178, 18]), (80, [])]
def bc_p40 : List (Nat × List Nat) := [(0, []), (1, [1133]), (4, []), (5, [1130]), (8, []), (9, []), (10, []), (11, [1135]), (14, []), (15, [1130]), (18, []), (19, []), (20, []), (21, [1137]), (24, []), (25, [1130]), (28, []), (29, []), (30, []), (31, [1139]), (34, []), (35, [1130]), (38, []), (39, []), (40, []), (41, []), (42, [1130]), (45, []), (46, []), (47, [1130]), (50, [])]
def bc_p41 : List (Nat × List Nat) := [(0, []), (1, []), (2, [1130]), (5, []), (6, []), (7, []), (8, []), (9, []), (10, []), (11, []), (12, []), (13, []), (14, []), (15, []), (18, []), (19, []), (21, []), (22, []), (24, []), (26, []), (27, [1130]), (30, []), (33, []), (34, []), (35, []), (37, []), (38, []), (39, []), (40, []), (41, []), (43, []), (45, []), (46, []), (49, []), (50, [1139]), (53, []), (55, []), (56, []), (58, []), (59, []), (60, []), (61, []), (64, []), (66, []), (67, []), (69, []), (70, []), (71, []), (73, []), (76, []), (79, []), (80, []), (81, []), (83, []), (84, []), (87, []), (90, []), (91, []), (92, []), (93, []), (94, []), (95, [])]
def bc_p42 : List (Nat × List Nat) := [(0, []), (1, []), (2, []), (3, []), (4, []), (5, []), (7, []), (9, []), (10, [1130]), (13, []), (16, []), (17, []), (19, []), (20, []), (22, []), (24, []), (25, [1130]), (28, []), (31, []), (33, []), (34, []), (37, []), (38, []), (40, [4181, 4059, 1, 4060]), (43, []), (46, []), (47, [1139]), (50, []), (52, []), (53, []), (54, []), (55, []), (56, []), (57, []), (60, []), (62, []), (64, []), (67, []), (70, []), (72, []), (73, []), (76, []), (77, []), (78, []), (79, []), (80, []), (82, []), (83, []), (84, []), (85, []), (87, []), (88, []), (91, []), (93, []), (96, []), (97, []), (98, []), (101, []), (104, []), (105, [])]
def bc_p43 : List (Nat × List Nat) := [(0, []), (1, [1139]), (4, []), (5, []), (6, []), (7, []), (8, []), (9, []), (10, []), (11, [1130]), (14, []), (17, []), (18, []), (20, []), (22, []), (23, [1130]), (26, []), (29, []), (30, []), (31, []), (33, [4181, 4059, 1, 4060]), (36, []), (39, []), (40, [1139]), (43, []), (45, []), (46, []), (49, []), (50, []), (51, []), (52, []), (55, []), (58, []), (61, []), (64, []), (65, [])]
def bc_p44 : List (Nat × List Nat) := [(0, []), (1, []), (3, []), (5, []), (6, [1130]), (9, []), (12, []), (13, []), (15, [4181, 4059, 1, 4060]), (18, []), (21, []), (22, [1135]), (25, []), (27, []), (28, []), (29, [1135]), (32, []), (33, []), (34, []), (35, [4206, 4207, 20, 4208]), (38, []), (39, [1137]), (42, []), (44, []), (45, []), (46, [1137]), (49, []), (50, []), (51, []), (52, [4206, 4207, 20, 4208]), (55, []), (56, []), (57, []), (60, []), (61, []), (62, []), (65, []), (68, []), (69, [])]
def bc_p45 : List (Nat × List Nat) := [(0, []), (1, []), (2, []), (3, []), (4, []), (5, []), (6, []), (7, []), (8, [1130]), (11, []), (14, []), (15, []), (17, []), (19, []), (20, []), (21, []), (22, []), (25, []), (26, []), (27, []), (28, []), (29, []), (31, []), (32, []), (33, []), (35, []), (36, []), (37, []), (40, []), (41, []), (42, []), (44, []), (45, [4202, 4204, 22002, 15, 4205]), (48, []), (51, []), (52, []), (55, []), (56, []), (57, []), (60, []), (63, []), (66, []), (69, [])]
def bc_p46 : List (Nat × List Nat) := [(0, []), (1, []), (2, []), (3, [4198, 4200, 22001, 15, 4201]), (6, []), (7, []), (8, [1130]), (11, []), (12, []), (13, []), (14, []), (15, []), (16, []), (17, []), (18, []), (20, []), (22, []), (23, []), (26, []), (28, []), (30, []), (31, []), (33, []), (35, []), (37, []), (40, []), (42, []), (44, []), (45, []), (46, []), (47, []), (50, []), (51, []), (53, []), (54, []), (55, []), (58, []), (60, []), (61, []), (62, []), (63, []), (65, []), (67, []), (68, []), (69, []), (70, []), (71, [4209, 2221, 20, 2222]), (74, []), (76, []), (79, []), (82, []), (83, []), (84, []), (86, []), (87, []), (89, []), (90, []), (93, []), (96, []), (97, []), (98, []), (99, []), (100, []), (101, []), (102, []), (103, [])]
def bc_p47 : List (Nat × List Nat) := [(0, []), (1, []), (2, []), (3, [4198, 4200, 22001, 15, 4201]), (6, []), (7, []), (8, []), (9, []), (11, []), (13, []), (14, []), (15, [1130]), (18, []), (19, []), (22, []), (23, []), (25, []), (26, []), (27, []), (30, []), (32, [4218, 4006, 21, 4007]), (35, []), (36, [4218, 4006, 21, 4007]), (39, []), (42, []), (44, []), (45, []), (48, []), (51, []), (52, [])]
def bc_p48 : List (Nat × List Nat) := [(0, []), (1, [198, 29, 30]), (4, []), (5, []), (7, [47]), (9, [214]), (12, [])]
def bc_p49 : List (Nat × List Nat) := [(0, []), (1, []), (2, [211]), (5, []), (6, []), (7, [212]), (10, []), (11, []), (12, [213]), (15, []), (16, []), (17, [199]), (20, []), (21, []), (22, [201]), (25, []), (26, []), (27, [203]), (30, []), (31, []), (32, [205]), (35, []), (36, []), (37, [207]), (40, []), (41, []), (42, [209]), (45, []), (46, []), (48, []), (49, []), (51, []), (53, [5104]), (55, []), (58, []), (60, []), (63, []), (65, []), (66, [212]), (69, [2007]), (72, []), (75, []), (76, [212]), (79, [2009]), (82, []), (84, []), (85, []), (87, []), (90, []), (91, []), (93, [5105, 5107, 22010, 9, 5108]), (96, []), (98, []), (101, []), (102, [199]), (105, []), (108, []), (111, []), (112, []), (113, [209]), (116, []), (117, []), (118, []), (119, [199]), (122, []), (123, []), (124, [199]), (127, []), (128, []), (130, [5109, 5111, 22011, 9, 5112]), (133, []), (135, []), (138, []), (141, [])]
def bc_p50 : List (Nat × List Nat) := [(0, []), (1, [212]), (4, [2017]), (7, []), (8, []), (9, []), (10, []), (11, []), (14, []), (15, [212]), (18, [2009]), (21, []), (22, []), (23, []), (25, []), (28, []), (29, [214]), (32, []), (33, []), (34, []), (35, []), (36, []), (37, []), (38, []), (39, [214]), (42, []), (43, []), (44, []), (47, []), (48, []), (49, []), (50, []), (51, []), (52, []), (53, []), (54, [])]
def bc_p51 : List (Nat × List Nat) := [(0, []), (1, [212]), (4, [2015]), (7, []), (8, []), (9, []), (10, []), (11, []), (12, []), (13, [212]), (16, [2009]), (19, []), (20, []), (21, []), (80, []), (81, [212]), (84, [2007]), (87, []), (88, []), (89, []), (90, [5113, 5115, 22012, 9, 5116]), (93, []), (96, []), (97, []), (98, []), (99, []), (102, []), (103, [212]), (106, [2017]), (109, []), (110, []), (111, []), (112, []), (113, []), (114, []), (115, [214]), (118, []), (119, []), (120, []), (121, []), (124, []), (125, []), (126, [5124, 5126, 22014, 9, 5127]), (129, []), (130, []), (133, []), (134, []), (135, [212]), (138, [2013]), (141, []), (142, []), (143, [5117, 5119, 22013, 9, 5120]), (146, []), (149, []), (150, [211]), (153, []), (154, [212]), (157, [2013]), (160, []), (161, []), (162, [5129, 4024, 4025, 12, 4026]), (165, []), (168, []), (169, []), (172, []), (173, []), (174, []), (177, []), (178, [211]), (181, []), (182, [5130, 4033, 4034, 12, 4035]), (185, []), (186, []), (189, []), (190, []), (191, [5131, 5133, 22015, 9, 5134]), (194, []), (195, []), (196, []), (197, [201]), (200, []), (201, []), (204, []), (205, []), (208, []), (209, []), (210, [201]), (213, []), (214, []), (215, []), (216, [])]
def bc_p52 : List (Nat × List Nat) := [(0, []), (1, []), (2, []), (3, [211]), (6, [1166]), (9, []), (10, []), (11, [5121, 2115, 1, 2116]), (14, [])]
def bc_p53 : List (Nat × List Nat) := [(0, []), (1, [212]), (4, [2013]), (7, []), (8, []), (9, []), (10, []), (11, [212]), (14, [2011]), (17, []), (18, []), (19, []), (21, []), (24, []), (25, [211]), (28, [1156]), (31, []), (34, []), (35, []), (38, []), (39, []), (40, []), (41, []), (42, [5117, 5119, 22013, 9, 5120]), (45, []), (48, []), (49, []), (50, []), (51, [212]), (54, [2011]), (57, []), (58, []), (59, []), (100, []), (101, [211]), (104, []), (105, [5122, 3172, 3173, 12, 3174]), (108, []), (109, []), (110, [211]), (113, [1189]), (116, []), (117, []), (118, []), (119, [212]), (122, [2015]), (125, []), (126, []), (127, []), (130, []), (131, []), (134, []), (135, []), (136, []), (137, [211]), (140, []), (141, [5123, 3202, 3203, 12, 3204]), (144, []), (145, [212]), (148, [2015]), (151, []), (152, []), (153, []), (156, []), (157, []), (160, []), (161, []), (162, []), (163, [211]), (166, []), (167, [5123, 3202, 3203, 12, 3204]), (170, []), (171, [212]), (174, [2015]), (177, []), (178, []), (179, []), (182, []), (183, []), (186, []), (187, []), (188, []), (189, [211]), (192, []), (193, [5123, 3202, 3203, 12, 3204]), (196, []), (197, [212]), (200, [2015]), (203, []), (204, []), (205, []), (208, []), (209, []), (212, []), (213, [])]
def bc_p54 : List (Nat × List Nat) := [(0, []), (1, [211]), (4, [1163]), (7, []), (10, []), (11, []), (12, []), (15, []), (16, []), (17, []), (18, []), (19, []), (20, []), (21, []), (24, []), (25, []), (26, [207]), (29, []), (30, [211]), (33, [5128, 3238, 3239, 12, 4000]), (36, []), (37, [207]), (40, []), (43, []), (46, []), (47, []), (48, [203]), (51, []), (52, []), (53, [203]), (56, []), (57, [])]
def bc_p55 : List (Nat × List Nat) := [(0, []), (1, [212]), (4, [2013]), (7, []), (8, []), (9, []), (10, []), (11, [212]), (14, [2015]), (17, []), (18, []), (19, []), (20, []), (21, [212]), (24, [2009]), (27, []), (28, []), (29, []), (31, []), (34, []), (35, [211]), (38, [1166]), (41, []), (44, []), (45, []), (46, []), (47, []), (48, [211]), (51, [1166]), (54, [5135, 5137, 23000, 9, 5138]), (57, []), (58, []), (59, []), (60, [211]), (63, [1177]), (66, [1090]), (69, [5135, 5137, 23000, 9, 5138]), (72, []), (73, []), (74, []), (75, [5117, 5119, 22013, 9, 5120]), (78, []), (81, []), (82, []), (83, []), (84, [211]), (87, [1177]), (90, [1090]), (93, []), (94, []), (95, [5121, 2115, 1, 2116]), (98, []), (101, []), (102, [211]), (105, []), (106, []), (107, [5140, 4016, 4017, 12, 4018]), (110, []), (113, []), (114, []), (115, []), (116, []), (117, [205]), (120, []), (121, []), (122, [205]), (125, []), (126, [])]
def bc_p56 : List (Nat × List Nat) := [(0, []), (1, []), (2, [213]), (5, []), (8, []), (9, []), (12, []), (13, [5139]), (15, []), (16, [213]), (19, []), (20, []), (23, []), (24, [213]), (27, []), (29, []), (30, []), (31, []), (32, []), (35, []), (36, [])]
def bc_p57 : List (Nat × List Nat) := [(0, []), (1, [164, 29, 30]), (4, []), (5, []), (7, [47]), (9, [170]), (12, []), (13, []), (14, [47]), (16, [172]), (19, []), (20, []), (21, [165]), (24, [])]
def bc_p58 : List (Nat × List Nat) := [(0, []), (1, []), (2, [166]), (5, []), (6, [166]), (9, [2196, 2197, 2198, 12, 2199]), (12, []), (13, []), (14, [168]), (17, []), (18, []), (19, [169]), (22, []), (23, [165]), (26, []), (27, [2216, 2217, 2218, 3, 2219]), (30, []), (31, []), (32, []), (33, []), (34, []), (37, []), (38, [165]), (41, [2239, 3000, 3001, 3, 3002]), (44, []), (47, []), (48, [3003, 3005, 20007, 8, 3006]), (51, []), (54, []), (55, [165]), (58, []), (60, [3097, 3098, 3099, 3, 3100]), (63, []), (66, []), (67, []), (68, []), (71, []), (74, []), (75, [166]), (78, [1175]), (81, [3101, 3102, 3103, 14, 3104]), (84, []), (85, [])]
def bc_p59 : List (Nat × List Nat) := [(0, []), (1, [165]), (4, [114]), (7, []), (80, []), (81, [3007, 3009, 20008, 8, 3010]), (84, []), (85, []), (86, [3021, 3023, 20009, 8, 3024]), (89, []), (90, []), (91, [3025, 3027, 20010, 8, 3028]), (94, []), (95, []), (96, [3045, 3047, 20012, 8, 3048]), (99, []), (100, []), (101, [3065, 3067, 20014, 8, 3068]), (104, []), (105, []), (106, [3073, 3075, 20015, 8, 3076]), (109, []), (110, []), (111, [3081, 3083, 21000, 8, 3084]), (114, []), (115, []), (116, [3089, 3091, 21001, 8, 3092]), (119, []), (120, []), (121, [3093, 3095, 21002, 8, 3096]), (124, []), (125, []), (126, [165]), (129, []), (130, [3011, 3012, 3013, 3, 3014]), (133, [])]
def bc_p60 : List (Nat × List Nat) := [(0, []), (1, [165]), (4, [3033, 3034, 3035, 3, 3036]), (7, []), (10, []), (11, [165]), (14, []), (15, [3011, 3012, 3013, 3, 3014]), (18, []), (19, []), (20, [166]), (23, []), (24, [165]), (27, [115]), (30, [3037, 3038, 3039, 12, 3040]), (33, []), (36, []), (37, [165]), (40, []), (41, [3011, 3012, 3013, 3, 3014]), (44, []), (45, []), (46, [166]), (49, []), (50, [165]), (53, [115]), (56, []), (57, []), (58, [3041, 3042, 3043, 12, 3044]), (61, []), (62, [165]), (65, [3015, 2224, 2225, 3, 2226]), (68, []), (69, [])]
def bc_p61 : List (Nat × List Nat) := [(0, []), (1, [165]), (4, [3033, 3034, 3035, 3, 3036]), (7, []), (10, []), (11, [165]), (14, []), (15, [3011, 3012, 3013, 3, 3014]), (18, []), (19, []), (20, [166]), (23, []), (24, [165]), (27, [115]), (30, []), (31, [3057, 3058, 3059, 12, 3060]), (34, []), (35, []), (36, []), (37, []), (40, []), (41, [165]), (44, []), (45, [3011, 3012, 3013, 3, 3014]), (48, []), (49, []), (50, []), (51, []), (54, []), (55, [165]), (58, []), (59, [3011, 3012, 3013, 3, 3014]), (62, []), (63, []), (64, [170]), (67, []), (68, []), (69, []), (70, []), (71, [165]), (74, [3015, 2224, 2225, 3, 2226]), (77, []), (78, [])]
def bc_p62 : List (Nat × List Nat) := [(0, []), (1, [168]), (4, []), (7, []), (8, [165]), (11, []), (12, [3011, 3012, 3013, 3, 3014]), (15, []), (16, []), (17, []), (18, [168]), (21, []), (22, [165]), (25, [3015, 2224, 2225, 3, 2226]), (28, []), (29, [165]), (32, []), (33, []), (35, [3016, 3017, 3018, 3, 3019]), (38, []), (41, []), (42, []), (43, []), (44, [166]), (47, []), (48, [165]), (51, [111]), (54, [1157]), (57, []), (58, [])]
def bc_p63 : List (Nat × List Nat) := [(0, []), (1, [169]), (4, []), (7, []), (8, [165]), (11, []), (12, [3011, 3012, 3013, 3, 3014]), (15, []), (16, []), (17, []), (18, [169]), (21, []), (22, [165]), (25, [3015, 2224, 2225, 3, 2226]), (28, []), (29, [165]), (32, []), (33, []), (35, [3016, 3017, 3018, 3, 3019]), (38, []), (41, []), (42, []), (43, []), (44, [166]), (47, []), (48, [165]), (51, [111]), (54, [1160]), (57, []), (58, [])]
def bc_p64 : List (Nat × List Nat) := [(0, []), (1, [166]), (4, [1171]), (7, [1072]), (10, []), (11, []), (14, []), (15, [165]), (18, []), (20, [3011, 3012, 3013, 3, 3014]), (23, []), (24, []), (25, [165]), (28, [3015, 2224, 2225, 3, 2226]), (31, []), (32, []), (33, []), (34, [166]), (37, [1171]), (40, [1072]), (43, [3029, 3031, 20011, 8, 3032]), (46, []), (49, []), (50, []), (51, []), (52, [166]), (55, [1171]), (58, []), (59, [1072]), (62, []), (63, []), (64, [1072]), (67, []), (68, [])]
def bc_p65 : List (Nat × List Nat) := [(0, []), (1, [166]), (4, [1175]), (7, [1091]), (10, []), (12, []), (15, []), (16, [165]), (19, []), (21, [3011, 3012, 3013, 3, 3014]), (24, []), (25, []), (26, [165]), (29, [3015, 2224, 2225, 3, 2226]), (32, []), (33, []), (34, []), (35, [166]), (38, [1175]), (41, [1091]), (44, [3029, 3031, 20011, 8, 3032]), (47, []), (50, []), (51, []), (52, []), (53, [165]), (56, [114]), (59, []), (60, []), (63, []), (64, [166]), (67, [1175]), (70, []), (71, []), (72, [3049, 3050, 3051, 14, 3052]), (75, []), (76, []), (77, []), (78, [165]), (81, [3015, 2224, 2225, 3, 2226]), (84, []), (85, []), (86, []), (87, [3053, 3055, 20013, 8, 3056]), (90, []), (93, []), (94, [165]), (97, []), (98, [3061, 3062, 3063, 3, 3064]), (101, []), (104, []), (105, [165]), (108, []), (109, []), (111, [3016, 3017, 3018, 3, 3019]), (114, []), (117, []), (118, []), (119, []), (120, [166]), (123, [1175]), (126, []), (127, [170]), (130, []), (131, []), (132, []), (133, [165]), (136, [111]), (139, [3049, 3050, 3051, 14, 3052]), (142, []), (143, [])]
def bc_p66 : List (Nat × List Nat) := [(0, []), (1, [166]), (4, [1175]), (7, [1094]), (10, []), (12, []), (15, []), (16, [165]), (19, []), (21, [3011, 3012, 3013, 3, 3014]), (24, []), (25, []), (26, [165]), (29, [3015, 2224, 2225, 3, 2226]), (32, []), (33, []), (34, []), (35, [3053, 3055, 20013, 8, 3056]), (38, []), (41, []), (42, []), (43, []), (44, [170]), (47, []), (48, []), (49, []), (50, []), (51, []), (52, []), (53, [3053, 3055, 20013, 8, 3056]), (56, []), (59, []), (60, [165]), (63, []), (65, [3061, 3062, 3063, 3, 3064]), (68, []), (71, []), (72, [165]), (75, []), (76, []), (78, [3016, 3017, 3018, 3, 3019]), (81, []), (84, []), (85, []), (86, []), (87, [166]), (90, [1175]), (93, []), (94, []), (95, [170]), (98, []), (99, []), (100, []), (101, [165]), (104, [111]), (107, [3069, 3070, 3071, 14, 3072]), (110, []), (111, [])]
def bc_p67 : List (Nat × List Nat) := [(0, []), (1, [166]), (4, [1168]), (7, []), (9, []), (12, []), (13, [165]), (16, []), (18, [3011, 3012, 3013, 3, 3014]), (21, []), (22, []), (23, [165]), (26, [3015, 2224, 2225, 3, 2226]), (29, []), (30, []), (32, []), (33, [166]), (36, [1168]), (39, [3029, 3031, 20011, 8, 3032]), (42, []), (45, []), (46, [165]), (49, []), (51, [3061, 3062, 3063, 3, 3064]), (54, []), (57, []), (58, [165]), (61, []), (62, []), (64, [3016, 3017, 3018, 3, 3019]), (67, []), (70, []), (71, []), (72, []), (73, [165]), (76, [111]), (79, []), (80, []), (81, [165]), (84, []), (86, [3061, 3062, 3063, 3, 3064]), (89, []), (92, []), (93, []), (94, []), (95, [3053, 3055, 20013, 8, 3056]), (98, []), (101, []), (102, []), (103, []), (104, [166]), (107, []), (108, []), (109, [170]), (112, []), (113, []), (114, [3077, 3078, 3079, 12, 3080]), (117, []), (118, [])]
def bc_p68 : List (Nat × List Nat) := [(0, []), (1, [166]), (4, [1180]), (7, [1131]), (10, []), (12, []), (15, []), (16, [165]), (19, []), (21, [3011, 3012, 3013, 3, 3014]), (24, []), (25, []), (26, [165]), (29, [3015, 2224, 2225, 3, 2226]), (32, []), (33, []), (35, []), (36, [166]), (39, [1180]), (42, [1131]), (45, [3029, 3031, 20011, 8, 3032]), (48, []), (51, []), (52, [165]), (55, []), (56, [3061, 3062, 3063, 3, 3064]), (59, []), (62, []), (63, []), (64, []), (65, [3053, 3055, 20013, 8, 3056]), (68, []), (71, []), (72, [165]), (75, []), (77, [3061, 3062, 3063, 3, 3064]), (80, []), (83, []), (84, [165]), (87, []), (88, []), (90, [3016, 3017, 3018, 3, 3019]), (93, []), (96, []), (97, []), (98, []), (99, [165]), (102, [111]), (105, []), (106, []), (107, [165]), (110, []), (111, []), (113, [3016, 3017, 3018, 3, 3019]), (116, []), (119, []), (120, []), (121, []), (122, [166]), (125, [1180]), (128, []), (129, [170]), (132, []), (133, []), (134, []), (135, []), (136, [165]), (139, [111]), (142, [3085, 3086, 3087, 15, 3088]), (145, []), (146, [])]
def bc_p69 : List (Nat × List Nat) := [(0, []), (1, [165]), (4, [3015, 2224, 2225, 3, 2226]), (7, []), (8, []), (10, []), (11, [3053, 3055, 20013, 8, 3056]), (14, []), (17, []), (18, []), (19, []), (20, [170]), (23, []), (25, []), (26, []), (27, []), (28, []), (30, []), (31, [3053, 3055, 20013, 8, 3056]), (34, []), (37, []), (38, []), (39, []), (40, [166]), (43, [1180]), (46, [1140]), (49, []), (50, []), (51, []), (52, []), (53, []), (54, [170]), (57, []), (59, []), (60, []), (61, []), (62, []), (63, []), (64, [])]
def bc_p70 : List (Nat × List Nat) := [(0, []), (1, [165]), (4, [3015, 2224, 2225, 3, 2226]), (7, []), (8, []), (9, []), (10, [3053, 3055, 20013, 8, 3056]), (13, []), (16, []), (17, []), (18, []), (19, [170]), (22, []), (23, []), (24, []), (25, []), (26, []), (27, []), (28, [3053, 3055, 20013, 8, 3056]), (31, []), (34, []), (35, [165]), (38, []), (40, [3061, 3062, 3063, 3, 3064]), (43, []), (46, []), (47, [165]), (50, []), (51, []), (53, [3016, 3017, 3018, 3, 3019]), (56, []), (59, []), (60, []), (61, []), (62, [166]), (65, [1171]), (68, [1075]), (71, []), (72, []), (73, []), (74, []), (75, [170]), (78, []), (79, []), (80, []), (81, []), (82, [165]), (85, [111]), (88, []), (89, []), (90, [])]
def bc_p71 : List (Nat × List Nat) := [(0, []), (1, []), (2, [166]), (5, []), (6, []), (7, [167]), (10, []), (11, [167]), (14, [3126, 3110, 3111, 16, 3112]), (17, []), (18, []), (19, [171]), (22, []), (23, [165]), (26, []), (27, [2216, 2217, 2218, 3, 2219]), (30, []), (31, []), (33, []), (35, []), (36, []), (39, []), (40, [165]), (43, [2239, 3000, 3001, 3, 3002]), (46, []), (49, []), (50, [165]), (53, [114]), (56, []), (58, []), (61, []), (62, [3127, 3129, 21005, 8, 3130]), (65, []), (68, []), (69, [3140, 3142, 21006, 8, 3143]), (72, []), (74, []), (76, []), (79, []), (80, [165]), (83, []), (85, [3097, 3098, 3099, 3, 3100]), (88, []), (91, []), (92, []), (93, []), (96, []), (99, []), (100, [171]), (103, []), (106, []), (107, [165]), (110, []), (111, [3011, 3012, 3013, 3, 3014]), (114, []), (115, []), (116, [167]), (119, []), (120, [2001]), (123, []), (124, [])]
def bc_p72 : List (Nat × List Nat) := [(0, []), (1, [171]), (4, []), (7, []), (8, [171]), (11, []), (12, [172]), (15, []), (16, []), (19, []), (20, [165]), (23, []), (24, [3011, 3012, 3013, 3, 3014]), (27, []), (28, []), (29, []), (30, [171]), (33, []), (34, []), (35, [171]), (38, []), (39, [167]), (42, []), (43, [172]), (46, []), (47, [171]), (50, []), (51, []), (52, [167]), (55, []), (57, []), (58, []), (59, []), (60, [3131, 3132, 3133, 16, 3134]), (63, [3135, 3136, 3137, 16, 3138]), (66, []), (67, [165]), (70, [3015, 2224, 2225, 3, 2226]), (73, []), (74, [])]
def bc_p73 : List (Nat × List Nat) := [(0, []), (1, [165]), (4, [114]), (7, []), (8, []), (9, [3144, 3145, 8, 3146]), (12, []), (15, []), (16, [165]), (19, []), (20, [3011, 3012, 3013, 3, 3014]), (23, []), (24, []), (25, [167]), (28, [2005]), (31, []), (33, []), (36, []), (37, [165]), (40, []), (42, [3011, 3012, 3013, 3, 3014]), (45, []), (46, []), (47, []), (49, []), (52, []), (53, []), (55, []), (58, []), (59, []), (62, []), (63, []), (64, []), (65, []), (68, []), (69, [171]), (72, []), (73, [172]), (76, []), (77, []), (80, []), (81, [165]), (84, []), (86, [3011, 3012, 3013, 3, 3014]), (89, []), (90, []), (91, [165]), (94, [3015, 2224, 2225, 3, 2226]), (97, []), (98, []), (99, [173]), (102, []), (103, []), (105, []), (108, []), (109, [3147, 3149, 21007, 8, 3150]), (112, []), (115, []), (118, []), (119, []), (120, [3151, 3153, 21008, 8, 3154]), (123, []), (126, []), (127, []), (128, []), (129, []), (131, []), (134, []), (135, [173]), (138, []), (140, []), (143, []), (144, []), (147, []), (148, []), (149, []), (150, [167]), (153, []), (154, []), (155, [173]), (158, []), (159, [170]), (162, []), (164, []), (165, []), (166, []), (169, []), (170, [170]), (173, []), (174, []), (175, []), (178, []), (179, [165]), (182, [111]), (185, [3131, 3132, 3133, 16, 3134]), (188, []), (190, []), (191, []), (194, []), (195, [172]), (198, []), (199, [171]), (202, []), (204, []), (205, []), (206, []), (207, [171]), (210, []), (211, []), (212, [171]), (215, []), (216, [])]
def bc_p74 : List (Nat × List Nat) := [(0, []), (1, []), (60, []), (61, []), (62, []), (63, [])]
def bc_p75 : List (Nat × List Nat) := [(0, []), (1, []), (52, []), (53, [165]), (56, []), (57, []), (59, [3016, 3017, 3018, 3, 3019]), (62, []), (63, []), (64, []), (66, []), (67, [3053, 3055, 20013, 8, 3056]), (70, []), (73, []), (74, []), (75, []), (76, [3053, 3055, 20013, 8, 3056]), (79, []), (82, []), (83, []), (86, []), (87, []), (88, []), (89, []), (91, []), (92, [3053, 3055, 20013, 8, 3056]), (95, []), (96, []), (97, [165]), (100, []), (101, []), (103, [3016, 3017, 3018, 3, 3019]), (106, []), (107, []), (108, [165]), (111, []), (112, []), (114, [3016, 3017, 3018, 3, 3019]), (117, []), (118, []), (119, [])]
def bc_p76 : List (Nat × List Nat) := [(0, []), (1, []), (2, [165]), (5, [114]), (8, [173]), (11, []), (12, [173]), (15, []), (17, []), (20, []), (21, [173]), (24, []), (26, []), (29, []), (30, [173]), (33, []), (35, []), (38, []), (39, [173]), (42, []), (44, []), (47, []), (48, [165]), (51, []), (52, [3011, 3012, 3013, 3, 3014]), (55, []), (56, []), (57, [165]), (60, [3015, 2224, 2225, 3, 2226]), (63, []), (64, [173]), (67, []), (69, []), (72, []), (73, []), (74, []), (75, []), (77, []), (78, [3053, 3055, 20013, 8, 3056]), (81, []), (84, []), (85, []), (86, []), (87, [173]), (90, []), (92, []), (95, []), (96, []), (97, []), (98, [3053, 3055, 20013, 8, 3056]), (101, []), (102, []), (103, [173]), (106, []), (108, []), (111, []), (112, []), (113, []), (114, []), (115, [165]), (118, [118]), (121, [173]), (124, []), (125, [173]), (128, []), (130, []), (133, []), (134, [173]), (137, []), (139, []), (142, []), (143, [173]), (146, []), (148, []), (151, []), (152, [165]), (155, []), (156, [3011, 3012, 3013, 3, 3014]), (159, []), (160, []), (161, [165]), (164, [3015, 2224, 2225, 3, 2226]), (167, []), (168, [165]), (171, []), (172, []), (174, [3016, 3017, 3018, 3, 3019]), (177, [])]
def bc_p77 : List (Nat × List Nat) := [(0, []), (1, [1020, 29, 30]), (4, []), (5, []), (6, [47]), (8, [1023]), (11, []), (12, []), (13, [47]), (15, [1027]), (18, []), (19, []), (21, [47]), (23, [1028]), (26, []), (27, []), (29, [47]), (31, [1029]), (34, [])]
def bc_p78 : List (Nat × List Nat) := [(0, []), (1, []), (2, [1174]), (5, [1030]), (8, []), (9, []), (10, [1183]), (13, []), (14, []), (15, [1031]), (18, []), (19, []), (20, [1155]), (23, [1032]), (26, []), (27, [1197]), (30, []), (31, []), (32, []), (33, []), (34, [1028]), (37, []), (38, [4148, 4074, 12, 4075]), (41, [])]
def bc_p79 : List (Nat × List Nat) := [(0, []), (1, []), (2, []), (3, [4144, 4146, 21014, 11, 4147]), (6, []), (7, []), (9, [1033]), (12, []), (13, []), (14, [1021]), (17, []), (18, []), (19, []), (20, [1188]), (23, []), (24, []), (25, []), (26, []), (27, [4149, 4151, 21015, 11, 4152]), (30, []), (31, [1021]), (34, []), (35, []), (38, []), (39, []), (42, []), (43, [])]
def bc_p80 : List (Nat × List Nat) := [(0, []), (1, []), (4, []), (5, [1021]), (8, []), (9, []), (12, []), (14, []), (15, [1021]), (18, []), (21, []), (22, []), (24, [1021]), (27, []), (28, [1027]), (31, []), (32, []), (33, [1023]), (36, []), (37, []), (38, [4153, 2179, 2178, 18]), (41, []), (42, []), (43, []), (44, []), (47, []), (48, []), (49, []), (51, []), (53, []), (54, [1030]), (57, [1089]), (60, []), (63, []), (64, [1030]), (67, [1109]), (70, []), (71, []), (73, []), (74, []), (76, []), (77, []), (78, []), (80, []), (81, []), (83, [4154, 4059, 1, 4060]), (86, []), (89, []), (91, []), (92, []), (95, []), (96, []), (97, []), (99, []), (101, [4155, 4157, 22000, 11, 4158]), (104, []), (107, []), (108, [1027]), (111, []), (112, []), (114, []), (115, []), (116, []), (117, []), (118, []), (119, []), (121, []), (122, []), (123, []), (125, []), (126, []), (127, []), (128, []), (129, []), (131, []), (133, []), (134, []), (135, [1033]), (138, []), (139, [4149, 4151, 21015, 11, 4152]), (142, []), (145, []), (148, [])]
def bc_p81 : List (Nat × List Nat) := [(0, []), (1, []), (2, []), (3, []), (4, []), (5, []), (7, []), (8, [1028]), (11, []), (12, []), (13, []), (14, []), (15, [1028]), (18, []), (20, [4148, 4074, 12, 4075]), (23, []), (24, []), (26, []), (28, []), (29, []), (32, []), (33, [1028]), (36, []), (38, []), (39, []), (40, [4159, 4002, 12, 4003]), (43, []), (46, []), (49, []), (50, []), (52, []), (54, []), (55, [1033]), (58, []), (61, []), (62, [1028]), (65, []), (67, []), (68, [1030]), (71, [1097]), (74, []), (75, []), (76, []), (77, [1030]), (80, [1102]), (83, []), (84, []), (85, [4159, 4002, 12, 4003]), (88, []), (89, [1028]), (92, []), (94, [4160, 3176, 12, 3177]), (97, []), (98, [1031]), (101, []), (104, []), (105, []), (106, []), (109, []), (112, []), (113, [])]
def bc_p82 : List (Nat × List Nat) := [(0, []), (1, []), (2, []), (3, [4144, 4146, 21014, 11, 4147]), (6, []), (7, []), (8, []), (9, [5056, 2221, 20, 2222]), (12, [1034]), (15, []), (16, []), (17, [1025]), (20, []), (21, [1030]), (24, [1102]), (27, []), (28, []), (29, [1029]), (32, []), (33, []), (35, [4153, 2179, 2178, 18]), (38, []), (39, []), (40, []), (41, [1188]), (44, []), (45, []), (46, []), (47, [1193]), (50, []), (51, []), (52, [5057, 5059, 22005, 11, 5060]), (55, [])]
def bc_p83 : List (Nat × List Nat) := [(0, []), (1, []), (2, [1034]), (5, []), (8, []), (9, [1031]), (12, []), (13, [1028]), (16, []), (17, []), (18, []), (19, [4160, 3176, 12, 3177]), (22, []), (23, []), (24, []), (25, []), (26, []), (27, []), (30, []), (31, []), (32, []), (33, []), (34, [5061, 5063, 22006, 11, 5064]), (37, []), (40, []), (41, []), (42, []), (43, []), (44, [5070, 5072, 22008, 11, 5073]), (47, [])]
def bc_p84 : List (Nat × List Nat) := [(0, []), (1, []), (3, []), (4, []), (6, []), (7, []), (9, []), (10, []), (13, []), (14, [1028]), (17, []), (18, []), (19, []), (20, [4160, 3176, 12, 3177]), (23, []), (24, [1031]), (27, []), (30, []), (31, []), (34, []), (35, []), (37, []), (38, []), (40, []), (42, []), (43, [1030]), (46, [1089]), (49, []), (52, []), (54, []), (57, []), (58, [1030]), (61, [1106]), (64, []), (65, []), (67, []), (68, []), (70, []), (71, []), (72, []), (74, []), (76, []), (79, []), (80, []), (81, []), (83, []), (85, [5065, 5067, 22007, 11, 5068]), (88, []), (90, []), (92, []), (95, []), (97, []), (99, []), (102, []), (104, []), (106, []), (108, []), (110, []), (111, []), (113, []), (116, []), (119, []), (120, []), (121, []), (122, []), (123, [5065, 5067, 22007, 11, 5068]), (126, []), (128, []), (130, []), (133, []), (135, []), (137, []), (140, []), (142, []), (144, []), (145, []), (147, []), (148, []), (151, []), (152, []), (154, [1025]), (157, []), (159, [])]
def bc_p85 : List (Nat × List Nat) := [(0, []), (1, []), (2, []), (3, []), (4, [5065, 5067, 22007, 11, 5068]), (7, []), (9, []), (10, []), (12, []), (14, []), (15, [1030]), (18, [1089]), (21, []), (24, []), (25, [1030]), (28, [1097]), (31, []), (33, []), (34, []), (35, []), (38, []), (39, [1029]), (42, []), (44, []), (45, []), (47, []), (50, []), (51, [1029]), (54, []), (56, []), (57, []), (58, []), (59, []), (60, []), (61, []), (63, []), (64, []), (65, []), (66, []), (67, [5065, 5067, 22007, 11, 5068]), (70, [5056, 2221, 20, 2222]), (73, []), (75, []), (76, [1029]), (79, []), (81, []), (82, []), (83, []), (84, []), (85, []), (86, []), (89, []), (92, []), (94, [])]
def bc_p86 : List (Nat × List Nat) := [(0, []), (1, []), (2, []), (3, []), (4, []), (5, []), (7, []), (8, []), (11, []), (12, [1032]), (15, []), (16, []), (19, []), (20, []), (23, []), (24, []), (26, []), (27, [1028]), (30, []), (31, []), (32, []), (33, []), (34, [1028]), (37, []), (39, [4148, 4074, 12, 4075]), (42, []), (43, [1028]), (46, []), (48, []), (50, []), (53, []), (54, [1030]), (57, [1097]), (60, []), (61, []), (62, []), (65, []), (66, []), (67, [1029]), (70, []), (71, []), (72, [4159, 4002, 12, 4003]), (75, []), (76, []), (77, []), (78, []), (79, []), (80, []), (81, []), (82, []), (83, []), (84, [5069, 3179, 20, 3180]), (87, [5057, 5059, 22005, 11, 5060]), (90, [])]
def bc_p87 : List (Nat × List Nat) := [(0, []), (1, [54, 29, 30]), (4, []), (5, []), (6, [107]), (9, []), (10, []), (11, [109]), (14, []), (15, []), (16, [113]), (19, []), (20, []), (23, [158]), (25, [119]), (28, []), (29, []), (31, [48]), (33, [120]), (36, []), (37, []), (38, []), (39, []), (40, []), (41, []), (43, []), (45, []), (47, [56, 57, 58, 4, 59]), (50, []), (53, []), (54, []), (56, []), (59, []), (61, []), (63, [66, 67, 68, 4, 69]), (66, []), (68, []), (70, []), (72, []), (75, []), (76, [120]), (79, []), (80, []), (81, []), (82, []), (83, []), (84, []), (87, []), (90, []), (91, [104]), (94, []), (95, []), (97, []), (99, []), (100, []), (101, []), (102, []), (103, []), (104, []), (105, []), (108, []), (111, [])]
def bc_p88 : List (Nat × List Nat) := [(0, []), (2, []), (3, []), (4, []), (7, []), (8, [105]), (11, []), (14, []), (17, []), (18, [119]), (21, []), (22, [105]), (25, []), (26, []), (27, []), (28, []), (29, []), (30, []), (31, []), (32, [105]), (35, []), (36, []), (37, [105]), (40, []), (43, []), (46, [])]
def bc_p89 : List (Nat × List Nat) := [(0, []), (1, []), (2, []), (3, [105]), (6, [2220, 2221, 20, 2222]), (9, [121]), (12, []), (13, []), (14, [105]), (17, []), (18, []), (19, [122]), (22, []), (23, []), (24, [107]), (27, []), (28, []), (29, [109]), (32, []), (33, [2223, 2224, 2225, 3, 2226]), (36, [])]
def bc_p90 : List (Nat × List Nat) := [(0, []), (1, [124]), (4, []), (7, []), (8, []), (11, []), (12, [])]
def bc_p91 : List (Nat × List Nat) := [(0, []), (1, [124]), (4, []), (5, []), (8, []), (9, [113]), (12, []), (13, []), (16, []), (17, [125]), (20, []), (22, []), (25, []), (26, []), (29, []), (30, [])]
def bc_p92 : List (Nat × List Nat) := [(0, []), (1, []), (2, [124]), (5, []), (6, []), (9, []), (10, []), (13, []), (14, [107]), (17, []), (18, []), (19, [123]), (22, [109]), (25, []), (26, [])]
def bc_p93 : List (Nat × List Nat) := [(0, []), (1, [113]), (4, []), (5, []), (8, []), (9, []), (10, [3020, 3012, 3013, 3, 3014]), (13, []), (14, []), (15, [2223, 2224, 2225, 3, 2226]), (18, []), (19, [])]
def bc_p94 : List (Nat × List Nat) := [(0, []), (1, [117]), (4, []), (5, []), (8, []), (9, []), (10, [3020, 3012, 3013, 3, 3014]), (13, []), (14, []), (15, [2223, 2224, 2225, 3, 2226]), (18, []), (19, [])]
def bc_p95 : List (Nat × List Nat) := [(0, []), (1, [124]), (4, []), (5, []), (8, []), (9, []), (10, [3020, 3012, 3013, 3, 3014]), (13, []), (14, []), (15, [126]), (18, []), (19, []), (22, []), (23, [126]), (26, []), (27, []), (30, []), (31, []), (32, [3020, 3012, 3013, 3, 3014]), (35, []), (36, []), (37, []), (38, [126]), (41, [112]), (44, []), (45, [2223, 2224, 2225, 3, 2226]), (48, []), (49, [])]
def bc_p96 : List (Nat × List Nat) := [(0, []), (1, [122]), (4, []), (5, [121]), (8, []), (11, []), (12, [119]), (15, []), (16, [122]), (19, []), (20, []), (22, []), (25, []), (26, [119]), (29, []), (30, [122]), (33, []), (34, []), (36, []), (39, []), (40, []), (41, [122]), (44, []), (45, []), (46, [122]), (49, []), (52, []), (53, []), (54, [122]), (57, [123]), (60, []), (61, []), (62, [113]), (65, []), (66, []), (67, [117]), (70, []), (71, [122]), (74, []), (75, [121]), (78, []), (81, []), (82, []), (83, [124]), (86, []), (89, []), (90, [119]), (93, []), (94, [122]), (97, []), (98, []), (100, []), (103, []), (104, [119]), (107, []), (108, [122]), (111, []), (112, []), (114, []), (117, []), (118, [2227, 2229, 20004, 3, 2230]), (121, []), (124, []), (125, [119]), (128, []), (129, [122]), (132, []), (133, []), (135, []), (138, []), (139, [119]), (142, []), (143, [122]), (146, []), (147, []), (149, []), (152, []), (153, [2231, 2233, 20005, 3, 2234]), (156, []), (159, []), (160, [2235, 2237, 20006, 3, 2238]), (163, [])]
def bc_p97 : List (Nat × List Nat) := [(0, []), (1, []), (2, [124]), (5, []), (6, []), (7, [116]), (10, []), (11, []), (12, [125]), (15, []), (16, [122]), (19, []), (20, [121]), (23, []), (26, []), (27, [119]), (30, []), (31, [122]), (34, []), (35, []), (37, []), (40, []), (41, [119]), (44, []), (45, [122]), (48, []), (49, []), (51, []), (54, []), (55, []), (56, [116]), (59, [104]), (62, []), (63, []), (64, [119]), (67, []), (68, [122]), (71, []), (72, []), (74, []), (75, []), (76, []), (77, []), (78, []), (79, [116]), (82, []), (83, []), (84, [125]), (87, []), (88, []), (89, [125]), (92, []), (93, []), (94, [122]), (97, []), (98, []), (99, [122]), (102, []), (105, []), (106, []), (107, []), (108, []), (110, []), (113, []), (114, [125]), (117, []), (119, []), (122, []), (123, [120]), (126, []), (127, []), (128, []), (129, [116]), (132, []), (133, []), (136, []), (137, []), (138, [113]), (141, []), (144, []), (147, [])]
def bc_p98 : List (Nat × List Nat) := [(0, []), (1, []), (2, []), (3, []), (4, [126]), (7, []), (8, [122]), (11, []), (12, [121]), (15, []), (18, []), (19, [119]), (22, []), (23, [122]), (26, []), (27, []), (29, []), (32, []), (33, [119]), (36, []), (37, [122]), (40, []), (41, []), (43, []), (46, []), (47, []), (48, []), (49, []), (52, []), (53, [126]), (56, []), (58, []), (59, []), (60, [119]), (63, []), (64, [122]), (67, []), (68, []), (70, []), (71, []), (72, []), (75, []), (76, [126]), (79, [126]), (82, []), (85, []), (86, []), (87, [122]), (90, []), (91, []), (92, [122]), (95, []), (98, []), (99, []), (100, []), (101, []), (104, []), (105, []), (108, []), (109, [124]), (112, [])]
def bc_p99 : List (Nat × List Nat) := [(0, []), (1, [119]), (4, []), (5, [122]), (8, []), (9, []), (10, []), (11, []), (13, []), (16, []), (17, []), (19, []), (22, []), (23, []), (25, []), (28, []), (29, []), (31, []), (34, []), (35, []), (38, []), (39, []), (40, []), (41, []), (42, []), (45, []), (46, []), (49, []), (50, [124]), (53, []), (54, []), (55, []), (58, []), (59, []), (62, []), (63, [117]), (66, []), (67, []), (68, [122]), (71, []), (72, []), (73, [122]), (76, [])]
def bc_p100 : List (Nat × List Nat) := [(0, []), (1, [36, 29, 30]), (4, []), (5, []), (6, [47]), (8, []), (9, []), (10, []), (11, []), (12, []), (13, []), (14, []), (15, []), (16, []), (17, []), (18, []), (19, []), (20, []), (21, []), (22, []), (23, []), (24, [37]), (27, []), (28, []), (29, [47]), (31, [38]), (34, []), (35, []), (38, [48]), (40, [39]), (43, [])]
def bc_p101 : List (Nat × List Nat) := [(0, []), (1, []), (2, []), (3, [2114, 2115, 1, 2116]), (6, [])]
def bc_p102 : List (Nat × List Nat) := [(0, []), (1, [37]), (4, []), (5, []), (6, []), (7, []), (10, []), (11, []), (14, []), (15, [])]
def bc_p103 : List (Nat × List Nat) := [(0, []), (1, [37]), (4, []), (5, []), (6, [])]
def bc_p104 : List (Nat × List Nat) := [(0, []), (1, []), (2, [38]), (5, []), (6, []), (7, []), (10, []), (11, []), (12, [38]), (15, []), (16, []), (17, []), (18, []), (19, []), (22, []), (23, []), (26, []), (27, [])]
def bc_p105 : List (Nat × List Nat) := [(0, []), (1, [37]), (4, []), (5, []), (6, []), (7, []), (8, [38]), (11, []), (12, []), (13, []), (14, []), (15, []), (17, []), (19, []), (20, []), (23, []), (24, [39]), (27, []), (28, []), (30, []), (31, []), (33, []), (34, []), (35, []), (36, []), (39, []), (42, [])]
def bc_p106 : List (Nat × List Nat) := [(0, []), (1, [39]), (4, []), (5, []), (7, []), (8, []), (9, []), (10, []), (11, [])]
def bc_p107 : List (Nat × List Nat) := [(0, []), (1, [39]), (4, []), (5, []), (7, []), (8, []), (9, []), (10, []), (11, []), (12, [37]), (15, []), (16, []), (17, [2150, 2151, 2, 2152]), (20, []), (21, [])]
def bc_p108 : List (Nat × List Nat) := [(0, []), (1, []), (28, []), (29, []), (30, []), (31, []), (32, []), (33, []), (34, []), (35, []), (36, []), (37, []), (38, []), (39, []), (40, []), (41, []), (42, []), (43, [])]
def bc_p109 : List (Nat × List Nat) := [(0, []), (1, [39]), (4, []), (5, []), (7, []), (8, []), (9, []), (10, []), (11, [39]), (14, []), (15, []), (17, []), (18, []), (20, []), (21, []), (23, [2177, 2179, 2178, 18]), (26, [])]
def bc_p110 : List (Nat × List Nat) := [(0, []), (1, [1087, 29, 30]), (4, []), (5, []), (7, [47]), (9, [1095]), (12, []), (13, []), (15, [47]), (17, [1100]), (20, []), (21, []), (23, [47]), (25, [1105]), (28, []), (29, []), (31, [47]), (33, [1108]), (36, [])]
def bc_p111 : List (Nat × List Nat) := [(0, []), (1, []), (2, [1088]), (5, []), (6, []), (7, [1093]), (10, []), (11, [1105]), (14, []), (15, [2211, 2205, 19, 2206]), (18, [])]
def bc_p112 : List (Nat × List Nat) := [(0, []), (1, []), (2, [1088]), (5, [1088]), (8, []), (9, []), (10, [1093]), (13, [1093]), (16, []), (17, [1095]), (20, []), (21, []), (22, [1095]), (25, []), (26, []), (27, [1095]), (30, []), (31, [4104, 2179, 2178, 18]), (34, []), (35, [1100]), (38, []), (39, []), (40, [1100]), (43, []), (44, []), (45, [1100]), (48, []), (49, [4104, 2179, 2178, 18]), (52, []), (53, [1105]), (56, []), (57, []), (58, [1105]), (61, []), (62, []), (63, [1105]), (66, []), (67, [4104, 2179, 2178, 18]), (70, []), (71, [1108]), (74, []), (75, []), (76, [1108]), (79, []), (80, []), (81, [1108]), (84, []), (85, [4104, 2179, 2178, 18]), (88, [])]
def bc_p113 : List (Nat × List Nat) := [(0, []), (1, [1095]), (4, []), (5, [1088]), (8, []), (9, []), (10, []), (11, [1100]), (14, []), (15, [1088]), (18, []), (19, []), (20, []), (21, []), (22, [1088]), (25, []), (26, []), (27, [1088]), (30, [])]
def bc_p114 : List (Nat × List Nat) := [(0, []), (1, []), (3, []), (4, []), (5, []), (6, []), (8, []), (9, [1105]), (12, []), (14, []), (15, []), (18, []), (19, []), (20, [1105]), (23, []), (25, []), (26, []), (29, []), (30, [1105]), (33, []), (35, []), (36, []), (37, []), (38, [1105]), (41, []), (42, []), (44, []), (45, []), (46, []), (47, []), (48, []), (49, []), (50, []), (51, [1093]), (54, []), (55, []), (56, [1093]), (59, [])]
def bc_p115 : List (Nat × List Nat) := [(0, []), (1, []), (2, []), (3, []), (4, []), (5, []), (6, [1088]), (9, []), (12, []), (13, []), (14, [1095]), (17, []), (18, []), (19, []), (20, []), (23, []), (24, []), (25, []), (26, []), (29, []), (30, []), (31, []), (32, []), (35, []), (38, []), (39, [])]
def bc_p116 : List (Nat × List Nat) := [(0, []), (1, []), (2, []), (3, []), (4, []), (5, []), (6, [1088]), (9, []), (12, []), (13, []), (14, [1105]), (17, []), (18, []), (20, []), (21, []), (22, []), (23, []), (24, []), (27, []), (28, []), (29, []), (30, []), (33, []), (34, []), (35, []), (36, []), (39, []), (42, []), (43, [])]
def bc_p117 : List (Nat × List Nat) := [(0, []), (1, []), (2, []), (3, []), (4, [1088]), (7, []), (10, []), (11, []), (12, []), (13, []), (14, [1088]), (17, []), (20, []), (21, []), (23, []), (24, []), (25, []), (26, []), (27, []), (28, [1108]), (31, []), (32, []), (33, []), (34, []), (37, []), (38, []), (41, []), (42, [1105]), (45, []), (46, []), (47, []), (50, []), (51, [1105]), (54, []), (55, []), (56, []), (59, []), (60, []), (61, []), (64, []), (67, []), (70, []), (73, []), (74, []), (75, []), (76, []), (77, [1088]), (80, []), (83, []), (84, []), (85, []), (86, []), (87, [1088]), (90, []), (93, []), (94, []), (95, []), (96, []), (97, [1088]), (100, []), (103, []), (104, []), (105, []), (106, []), (107, [3105, 3107, 21003, 14, 3108]), (110, []), (113, []), (116, []), (119, []), (122, []), (125, []), (128, [])]
def bc_p118 : List (Nat × List Nat) := [(0, []), (1, [1108]), (4, []), (5, []), (7, []), (8, []), (9, []), (10, []), (11, []), (13, []), (14, [1108]), (17, []), (18, []), (20, []), (21, []), (22, []), (23, []), (24, []), (26, []), (27, []), (29, []), (30, []), (31, []), (32, []), (34, []), (36, []), (37, []), (40, []), (42, []), (43, []), (46, []), (47, [1108]), (50, []), (52, []), (53, []), (54, []), (57, []), (59, []), (61, []), (62, []), (63, [1108]), (66, []), (68, []), (69, []), (72, []), (73, [1108]), (76, []), (78, []), (80, []), (82, []), (83, []), (84, [])]
def bc_p119 : List (Nat × List Nat) := [(0, []), (1, [28, 29, 30]), (4, []), (5, []), (6, [2039]), (9, []), (10, []), (11, [47]), (13, [2041]), (16, []), (17, [31, 32, 2]), (20, []), (21, [33, 34, 2, 35]), (24, [2042]), (27, []), (28, [49, 50, 3]), (31, []), (32, [51, 52, 3, 53]), (35, [2043]), (38, []), (39, [159, 160, 8]), (42, []), (43, []), (44, [2043]), (47, [161, 162, 8, 163]), (50, [2044]), (53, []), (54, [193, 194, 9]), (57, []), (58, [195, 196, 9, 197]), (61, [2045]), (64, []), (65, [236, 237, 10]), (68, []), (69, [238, 239, 10, 1000]), (72, [2046]), (75, []), (76, [1015, 1016, 11]), (79, []), (80, [1017, 1018, 11, 1019]), (83, [2047]), (86, []), (87, []), (90, [47]), (92, [2048]), (95, []), (96, [1058, 1059, 12]), (99, []), (100, [1060, 1061, 12, 1062]), (103, [2049]), (106, []), (107, [1058, 1059, 12]), (110, []), (111, [1060, 1061, 12, 1062]), (114, [2050]), (117, []), (118, [1234, 1235, 16]), (121, []), (122, [1236, 1237, 16, 1238]), (125, [2051]), (128, []), (129, [1234, 1235, 16]), (132, []), (133, [1236, 1237, 16, 1238]), (136, [2052]), (139, []), (140, []), (141, [1058]), (144, [2054]), (147, []), (148, []), (149, [1234]), (152, [2055]), (155, []), (156, []), (157, []), (158, []), (159, []), (162, []), (163, [2054]), (166, []), (167, [1058, 1059, 12]), (170, []), (171, [1060, 1061, 12, 1062]), (174, []), (175, []), (176, [2055]), (179, []), (180, [1234, 1235, 16]), (183, []), (184, [1236, 1237, 16, 1238]), (187, []), (188, []), (191, []), (194, [])]
def bc_p120 : List (Nat × List Nat) := [(0, []), (1, [2037]), (4, [])]
def bc_p121 : List (Nat × List Nat) := [(0, []), (1, [2038]), (4, [])]
def bc_p122 : List (Nat × List Nat) := [(0, []), (1, [2039]), (4, [])]
def bc_p123 : List (Nat × List Nat) := [(0, []), (1, [2111, 2112, 2, 2113]), (4, []), (7, []), (8, []), (9, []), (10, [2117, 2115, 1, 2116]), (13, []), (16, []), (17, []), (18, []), (20, [2117, 2115, 1, 2116]), (23, []), (26, []), (27, []), (28, [2118, 2120, 20000, 1, 2121]), (31, []), (32, []), (33, [2042]), (36, []), (37, []), (38, []), (39, [2122, 2123, 2124, 2, 2125]), (42, []), (43, [2126, 2128, 20001, 1, 2129]), (46, [])]
def bc_p124 : List (Nat × List Nat) := [(0, []), (1, []), (2, []), (3, [2134, 2136, 20002, 1, 2137]), (6, []), (8, []), (10, []), (13, []), (14, []), (16, [2118, 2120, 20000, 1, 2121]), (19, []), (20, []), (21, [2042]), (24, []), (25, []), (26, []), (27, [2146, 2147, 2148, 2, 2149]), (30, []), (31, [2126, 2128, 20001, 1, 2129]), (34, [])]
def bc_p125 : List (Nat × List Nat) := [(0, []), (1, []), (2, []), (3, [2134, 2136, 20002, 1, 2137]), (6, []), (7, []), (8, []), (11, []), (12, []), (13, [2157, 2159, 20003, 1, 2160]), (16, []), (17, []), (18, []), (19, []), (20, [2037]), (23, []), (24, [2042]), (27, []), (28, []), (29, [2161, 2162, 2163, 2, 2164]), (32, [])]
def bc_p126 : List (Nat × List Nat) := [(0, []), (1, [2111, 2112, 2, 2113]), (4, []), (7, []), (8, [2111, 2112, 2, 2113]), (11, []), (14, []), (15, []), (18, []), (20, []), (23, []), (25, []), (28, []), (29, []), (30, [2118, 2120, 20000, 1, 2121]), (33, []), (34, []), (35, [2042]), (38, []), (39, [2138, 2139, 2140, 2, 2141]), (42, []), (45, []), (46, [2042]), (49, []), (50, [2138, 2139, 2140, 2, 2141]), (53, []), (56, []), (57, []), (58, [2118, 2120, 20000, 1, 2121]), (61, []), (62, []), (63, [2042]), (66, []), (67, [2169, 2170, 2171, 2, 2172]), (70, []), (71, [2042]), (74, []), (75, [2169, 2170, 2171, 2, 2172]), (78, []), (81, []), (82, []), (84, [2118, 2120, 20000, 1, 2121]), (87, []), (88, []), (89, [2042]), (92, []), (93, []), (94, []), (96, [2142, 2143, 2144, 2, 2145]), (99, []), (102, []), (103, [2042]), (106, []), (107, []), (109, []), (111, [2142, 2143, 2144, 2, 2145]), (114, []), (117, []), (118, []), (119, [2118, 2120, 20000, 1, 2121]), (122, []), (123, []), (124, [2042]), (127, []), (128, []), (129, []), (130, []), (132, []), (134, [2173, 2174, 2175, 2, 2176]), (137, []), (138, [2126, 2128, 20001, 1, 2129]), (141, [])]
def bc_p127 : List (Nat × List Nat) := [(0, []), (1, [2043]), (4, [106]), (7, []), (10, []), (13, []), (14, []), (15, []), (16, [2043]), (19, []), (20, [2184, 2185, 2186, 3, 2187]), (23, []), (24, [2043]), (27, []), (28, [2184, 2185, 2186, 3, 2187]), (31, []), (32, [2043]), (35, []), (36, [2184, 2185, 2186, 3, 2187]), (39, []), (40, [2043]), (43, []), (45, [2184, 2185, 2186, 3, 2187]), (48, []), (49, [2043]), (52, []), (54, [2184, 2185, 2186, 3, 2187]), (57, []), (58, [2043]), (61, [106]), (64, [])]
def bc_p128 : List (Nat × List Nat) := [(0, []), (1, []), (2, []), (3, [2043]), (6, [106]), (9, [2117, 2115, 1, 2116]), (12, []), (15, []), (16, []), (17, [2157, 2159, 20003, 1, 2160]), (20, []), (21, []), (22, [2044]), (25, []), (26, []), (27, [2050]), (30, [2192, 2193, 2194, 8, 2195]), (33, []), (34, []), (35, []), (38, []), (39, []), (41, [2157, 2159, 20003, 1, 2160]), (44, []), (45, []), (46, [2049]), (49, []), (50, []), (51, []), (52, [2050]), (55, [2049]), (58, []), (59, []), (60, [2050]), (63, []), (64, [2051]), (67, [3109, 3110, 3111, 16, 3112]), (70, []), (71, []), (72, [2049]), (75, [1167]), (78, [3113, 3115, 21004, 1, 3116]), (81, [])]
def bc_p129 : List (Nat × List Nat) := [(0, []), (1, []), (2, []), (3, [2043]), (6, [106]), (9, []), (12, [3121, 2221, 20, 2222]), (15, [2117, 2115, 1, 2116]), (18, []), (21, []), (22, []), (23, [2157, 2159, 20003, 1, 2160]), (26, []), (27, []), (28, [2044]), (31, []), (32, []), (33, [2049]), (36, []), (37, [2052]), (40, [3122, 3123, 3124, 8, 3125]), (43, []), (44, []), (45, []), (48, []), (49, []), (51, [2157, 2159, 20003, 1, 2160]), (54, []), (55, []), (56, [2051]), (59, []), (60, []), (61, []), (62, [2052]), (65, [2051]), (68, []), (69, []), (70, [2052]), (73, []), (74, []), (75, [2051]), (78, [2004]), (81, [3113, 3115, 21004, 1, 3116]), (84, [])]
def bc_p130 : List (Nat × List Nat) := [(0, []), (1, []), (4, []), (5, [2043]), (8, [108]), (11, []), (12, []), (13, []), (14, []), (17, []), (18, [2043]), (21, [110]), (24, []), (27, []), (28, [])]
def bc_p131 : List (Nat × List Nat) := [(0, []), (1, []), (56, []), (57, []), (58, [2049]), (61, [1172]), (64, [1073]), (67, [3113, 3115, 21004, 1, 3116]), (70, []), (71, []), (72, []), (73, [2049]), (76, [1178]), (79, [1092]), (82, [3113, 3115, 21004, 1, 3116]), (85, []), (86, []), (87, []), (88, [2049]), (91, [1167]), (94, [3113, 3115, 21004, 1, 3116]), (97, []), (98, []), (99, []), (100, [2049]), (103, [1181]), (106, [1132]), (109, [3113, 3115, 21004, 1, 3116]), (112, []), (113, []), (114, []), (115, [2049]), (118, [1158]), (121, [3113, 3115, 21004, 1, 3116]), (124, []), (125, []), (126, []), (127, [2049]), (130, [1161]), (133, [3113, 3115, 21004, 1, 3116]), (136, []), (137, []), (138, []), (139, [2049]), (142, [1164]), (145, [3113, 3115, 21004, 1, 3116]), (148, []), (149, []), (150, []), (151, [2049]), (154, [1178]), (157, [3163, 3164, 3165, 14, 3166]), (160, [3113, 3115, 21004, 1, 3116]), (163, []), (164, []), (165, []), (166, [2049]), (169, [3167, 3168, 3169, 12, 3170]), (172, [3113, 3115, 21004, 1, 3116]), (175, []), (176, []), (177, []), (178, [2049]), (181, [3181, 3182, 3183, 12, 3184]), (184, [3113, 3115, 21004, 1, 3116]), (187, []), (188, []), (189, []), (190, [2157, 2159, 20003, 1, 2160]), (193, [])]
def bc_p132 : List (Nat × List Nat) := [(0, []), (1, []), (2, [3189, 3191, 21009, 1, 3192]), (5, []), (8, []), (9, []), (10, []), (11, [2117, 2115, 1, 2116]), (14, []), (17, []), (18, []), (19, [2157, 2159, 20003, 1, 2160]), (22, []), (23, []), (24, [2049]), (27, [1178]), (30, [1098]), (33, []), (34, []), (35, []), (36, []), (39, []), (40, []), (42, [2157, 2159, 20003, 1, 2160]), (45, []), (46, []), (47, []), (48, []), (51, []), (52, [2049]), (55, [1178]), (58, [1098]), (61, []), (62, []), (63, []), (66, []), (67, [2049]), (70, [1178]), (73, [1103]), (76, []), (77, []), (78, [3113, 3115, 21004, 1, 3116]), (81, [])]
def bc_p133 : List (Nat × List Nat) := [(0, []), (1, []), (2, [3197, 3199, 21010, 1, 3200]), (5, []), (8, []), (9, []), (10, [2157, 2159, 20003, 1, 2160]), (13, []), (14, []), (15, []), (44, []), (45, []), (46, [2049]), (49, [1185]), (52, []), (53, []), (54, [3113, 3115, 21004, 1, 3116]), (57, []), (58, []), (59, []), (60, [2049]), (63, [1190]), (66, []), (67, []), (68, [3113, 3115, 21004, 1, 3116]), (71, []), (72, []), (73, []), (74, [2049]), (77, [1194]), (80, []), (81, []), (82, [3113, 3115, 21004, 1, 3116]), (85, []), (86, []), (87, []), (88, [2049]), (91, []), (92, [3201, 3202, 3203, 12, 3204]), (95, [3113, 3115, 21004, 1, 3116]), (98, []), (99, []), (100, []), (101, [2157, 2159, 20003, 1, 2160]), (104, [])]
def bc_p134 : List (Nat × List Nat) := [(0, []), (1, []), (2, [3197, 3199, 21010, 1, 3200]), (5, []), (8, []), (9, []), (10, [3209, 3211, 21011, 1, 3212]), (13, []), (16, []), (17, []), (18, [2157, 2159, 20003, 1, 2160]), (21, []), (22, []), (23, []), (24, [2049]), (27, [1198]), (30, []), (31, []), (32, []), (33, []), (34, []), (35, []), (36, [3113, 3115, 21004, 1, 3116]), (39, [])]
def bc_p135 : List (Nat × List Nat) := [(0, []), (1, []), (2, [3197, 3199, 21010, 1, 3200]), (5, []), (8, []), (9, []), (10, [2157, 2159, 20003, 1, 2160]), (13, []), (14, []), (15, [2049]), (18, []), (19, [3217, 3172, 3173, 12, 3174]), (22, []), (25, []), (26, []), (28, [2157, 2159, 20003, 1, 2160]), (31, []), (32, []), (33, []), (34, [2049]), (37, [1198]), (40, []), (41, []), (42, []), (43, [3218, 3219, 12, 3220]), (46, [3113, 3115, 21004, 1, 3116]), (49, [])]
def bc_p136 : List (Nat × List Nat) := [(0, []), (1, []), (2, [3225, 3227, 21012, 1, 3228]), (5, []), (8, []), (9, []), (10, [2157, 2159, 20003, 1, 2160]), (13, []), (14, []), (15, []), (44, []), (45, []), (46, [2049]), (49, [1181]), (52, [1134]), (55, []), (56, []), (57, [3113, 3115, 21004, 1, 3116]), (60, []), (61, []), (62, []), (63, [2049]), (66, [1181]), (69, [1136]), (72, []), (73, []), (74, [3113, 3115, 21004, 1, 3116]), (77, []), (78, []), (79, []), (80, [2049]), (83, [1181]), (86, [1138]), (89, []), (90, []), (91, [3113, 3115, 21004, 1, 3116]), (94, []), (95, []), (96, []), (97, [2049]), (100, [1181]), (103, [1141]), (106, []), (107, []), (108, [3113, 3115, 21004, 1, 3116]), (111, []), (112, []), (113, []), (114, [2157, 2159, 20003, 1, 2160]), (117, [])]
def bc_p137 : List (Nat × List Nat) := [(0, []), (1, []), (2, [3209, 3211, 21011, 1, 3212]), (5, []), (8, []), (9, []), (10, [3209, 3211, 21011, 1, 3212]), (13, []), (16, []), (17, []), (18, [2157, 2159, 20003, 1, 2160]), (21, []), (22, []), (23, []), (24, [2049]), (27, [1172]), (30, [1076]), (33, []), (34, []), (35, []), (36, []), (37, []), (38, []), (39, [3113, 3115, 21004, 1, 3116]), (42, [])]
def bc_p138 : List (Nat × List Nat) := [(0, []), (1, []), (2, []), (5, [2117, 2115, 1, 2116]), (8, []), (11, []), (12, []), (13, [2157, 2159, 20003, 1, 2160]), (16, []), (17, []), (18, [2049]), (21, [1164]), (24, []), (27, []), (28, []), (29, []), (32, []), (33, []), (34, [2157, 2159, 20003, 1, 2160]), (37, []), (38, []), (39, []), (40, []), (41, []), (42, []), (45, []), (46, [2049]), (49, [3237, 3238, 3239, 12, 4000]), (52, []), (53, []), (56, []), (59, []), (60, []), (61, [2049]), (64, [3167, 3168, 3169, 12, 3170]), (67, [4005, 4006, 21, 4007]), (70, [3113, 3115, 21004, 1, 3116]), (73, [])]
def bc_p139 : List (Nat × List Nat) := [(0, []), (1, []), (2, [3197, 3199, 21010, 1, 3200]), (5, []), (8, []), (9, []), (10, [3189, 3191, 21009, 1, 3192]), (13, []), (16, []), (17, []), (18, [2157, 2159, 20003, 1, 2160]), (21, []), (22, []), (23, [2049]), (26, []), (27, []), (28, [4015, 4016, 4017, 12, 4018]), (31, []), (34, []), (35, []), (37, [2157, 2159, 20003, 1, 2160]), (40, []), (41, []), (42, []), (43, [2049]), (46, [1194]), (49, []), (50, []), (51, [3113, 3115, 21004, 1, 3116]), (54, [])]
def bc_p140 : List (Nat × List Nat) := [(0, []), (1, []), (2, [3197, 3199, 21010, 1, 3200]), (5, []), (8, []), (9, []), (10, [2157, 2159, 20003, 1, 2160]), (13, []), (14, []), (15, [2049]), (18, []), (19, [4023, 4024, 4025, 12, 4026]), (22, []), (25, []), (26, []), (28, [2157, 2159, 20003, 1, 2160]), (31, []), (32, []), (33, []), (34, [2049]), (37, []), (38, [3201, 3202, 3203, 12, 3204]), (41, [3113, 3115, 21004, 1, 3116]), (44, [])]
def bc_p141 : List (Nat × List Nat) := [(0, []), (1, []), (2, []), (4, [2117, 2115, 1, 2116]), (7, []), (10, []), (11, []), (12, [2157, 2159, 20003, 1, 2160]), (15, []), (16, []), (17, [2049]), (20, []), (21, [4032, 4033, 4034, 12, 4035]), (24, []), (27, []), (28, []), (29, [2157, 2159, 20003, 1, 2160]), (32, []), (33, []), (34, []), (35, [2049]), (38, [1158]), (41, [3113, 3115, 21004, 1, 3116]), (44, [])]
def bc_p142 : List (Nat × List Nat) := [(0, []), (1, []), (2, [3189, 3191, 21009, 1, 3192]), (5, []), (8, []), (9, []), (10, [3209, 3211, 21011, 1, 3212]), (13, []), (16, []), (17, []), (18, []), (20, [2117, 2115, 1, 2116]), (23, []), (26, []), (27, []), (28, [2118, 2120, 20000, 1, 2121]), (31, []), (32, []), (33, [2049]), (36, [1178]), (39, [1098]), (42, []), (43, []), (44, []), (45, []), (46, [2049]), (49, [1178]), (52, [1103]), (55, []), (56, []), (57, []), (58, []), (59, [2126, 2128, 20001, 1, 2129]), (62, [])]
def bc_p143 : List (Nat × List Nat) := [(0, []), (1, []), (2, [3189, 3191, 21009, 1, 3192]), (5, []), (8, []), (9, []), (10, [2157, 2159, 20003, 1, 2160]), (13, []), (14, []), (15, [2049]), (18, [1178]), (21, [1098]), (24, []), (25, []), (26, []), (27, []), (28, []), (29, []), (32, []), (33, []), (35, [2157, 2159, 20003, 1, 2160]), (38, []), (39, []), (40, [2049]), (43, [1178]), (46, [1098]), (49, []), (50, []), (51, []), (52, []), (53, [2049]), (56, [1178]), (59, [1103]), (62, []), (63, []), (64, []), (65, []), (66, []), (67, [3113, 3115, 21004, 1, 3116]), (70, [])]
def bc_p144 : List (Nat × List Nat) := [(0, []), (1, []), (2, []), (4, [2117, 2115, 1, 2116]), (7, []), (10, []), (11, []), (12, [3189, 3191, 21009, 1, 3192]), (15, []), (18, []), (19, []), (20, [2157, 2159, 20003, 1, 2160]), (23, []), (24, []), (25, [2049]), (28, [1167]), (31, []), (33, []), (36, []), (37, []), (38, [2157, 2159, 20003, 1, 2160]), (41, []), (42, []), (43, [2049]), (46, []), (47, []), (48, [4048, 3078, 3079, 12, 3080]), (51, []), (52, []), (53, [2049]), (56, [1167]), (59, []), (60, []), (61, [3113, 3115, 21004, 1, 3116]), (64, [])]
def bc_p145 : List (Nat × List Nat) := [(0, []), (1, []), (2, [3209, 3211, 21011, 1, 3212]), (5, []), (8, []), (9, []), (10, []), (12, [2117, 2115, 1, 2116]), (15, []), (18, []), (19, []), (20, []), (22, [2117, 2115, 1, 2116]), (25, []), (28, []), (29, []), (30, [2157, 2159, 20003, 1, 2160]), (33, []), (34, []), (35, [2049]), (38, [1181]), (41, [1132]), (44, []), (46, []), (49, []), (50, []), (51, [2157, 2159, 20003, 1, 2160]), (54, []), (55, []), (56, [2049]), (59, [1181]), (62, []), (63, []), (64, []), (65, [4053, 3086, 3087, 15, 3088]), (68, []), (69, []), (70, [2049]), (73, [1181]), (76, [1132]), (79, []), (80, []), (81, [3113, 3115, 21004, 1, 3116]), (84, [])]
def bc_p146 : List (Nat × List Nat) := [(0, []), (1, []), (2, [3225, 3227, 21012, 1, 3228]), (5, []), (8, []), (9, []), (10, [3225, 3227, 21012, 1, 3228]), (13, []), (16, []), (17, []), (18, []), (21, []), (22, []), (23, [2118, 2120, 20000, 1, 2121]), (26, []), (27, []), (28, [2049]), (31, [1181]), (34, [1141]), (37, []), (38, []), (39, []), (40, [4058, 4059, 1, 4060]), (43, []), (46, []), (47, []), (49, [2118, 2120, 20000, 1, 2121]), (52, []), (53, []), (54, [2049]), (57, [1181]), (60, [1141]), (63, []), (64, []), (65, []), (66, []), (67, []), (68, []), (69, []), (70, []), (71, []), (72, [2126, 2128, 20001, 1, 2129]), (75, [])]
def bc_p147 : List (Nat × List Nat) := [(0, []), (1, []), (2, []), (4, [2117, 2115, 1, 2116]), (7, []), (10, []), (11, []), (12, [2118, 2120, 20000, 1, 2121]), (15, []), (16, []), (17, [2049]), (20, []), (21, [1161]), (24, []), (25, [2126, 2128, 20001, 1, 2129]), (28, [])]
def bc_p148 : List (Nat × List Nat) := [(0, []), (1, []), (2, [3197, 3199, 21010, 1, 3200]), (5, []), (8, []), (9, []), (10, [3209, 3211, 21011, 1, 3212]), (13, []), (16, []), (17, []), (18, []), (21, [2117, 2115, 1, 2116]), (24, []), (27, []), (28, []), (29, [2157, 2159, 20003, 1, 2160]), (32, []), (33, []), (34, [2046]), (37, []), (38, [2049]), (41, []), (42, []), (43, [4069, 4070, 4071, 10, 4072]), (46, []), (47, []), (48, [2046]), (51, [1003]), (54, []), (55, []), (56, [3113, 3115, 21004, 1, 3116]), (59, [])]
def bc_p149 : List (Nat × List Nat) := [(0, []), (1, []), (2, [3197, 3199, 21010, 1, 3200]), (5, []), (8, []), (9, []), (10, []), (13, [2117, 2115, 1, 2116]), (16, []), (19, []), (20, []), (21, [2157, 2159, 20003, 1, 2160]), (24, []), (25, []), (26, [2046]), (29, []), (30, [2049]), (33, []), (34, []), (35, [4069, 4070, 4071, 10, 4072]), (38, []), (39, [2046]), (42, [1005]), (45, []), (46, []), (47, []), (48, [2049]), (51, [1185]), (54, []), (55, []), (56, []), (59, []), (60, []), (62, [2157, 2159, 20003, 1, 2160]), (65, []), (66, []), (67, []), (68, [2046]), (71, [1007]), (74, []), (75, []), (76, [3113, 3115, 21004, 1, 3116]), (79, [])]
def bc_p150 : List (Nat × List Nat) := [(0, []), (1, []), (2, [3197, 3199, 21010, 1, 3200]), (5, []), (8, []), (9, []), (10, [2157, 2159, 20003, 1, 2160]), (13, []), (14, []), (15, [2046]), (18, []), (19, [2049]), (22, []), (23, []), (26, [4069, 4070, 4071, 10, 4072]), (29, []), (30, []), (31, []), (32, []), (35, []), (38, []), (39, [2046]), (42, [1005]), (45, []), (46, []), (47, []), (48, [2049]), (51, [1185]), (54, []), (55, []), (56, []), (59, []), (60, []), (61, [3113, 3115, 21004, 1, 3116]), (64, []), (65, []), (68, []), (71, []), (72, []), (74, [2157, 2159, 20003, 1, 2160]), (77, [])]
def bc_p151 : List (Nat × List Nat) := [(0, []), (1, [2050]), (4, []), (5, [2049]), (8, [4091, 4092, 4093, 12, 4094]), (11, []), (12, []), (13, []), (14, []), (17, []), (20, []), (21, [2050]), (24, [3167, 3168, 3169, 12, 3170]), (27, []), (30, []), (31, []), (32, [3113, 3115, 21004, 1, 3116]), (35, []), (36, []), (37, [2050]), (40, [3237, 3238, 3239, 12, 4000]), (43, []), (44, []), (47, []), (50, []), (51, []), (53, [2157, 2159, 20003, 1, 2160]), (56, [])]
def bc_p152 : List (Nat × List Nat) := [(0, []), (1, []), (2, [3197, 3199, 21010, 1, 3200]), (5, []), (8, []), (9, []), (10, [3189, 3191, 21009, 1, 3192]), (13, []), (16, []), (17, []), (18, [2157, 2159, 20003, 1, 2160]), (21, []), (22, []), (23, [2049]), (26, [1178]), (29, [1098]), (32, []), (33, []), (34, []), (35, []), (38, []), (39, []), (41, [2157, 2159, 20003, 1, 2160]), (44, []), (45, []), (46, []), (47, [2046]), (50, []), (51, [2049]), (54, []), (55, []), (56, [4115, 4116, 4117, 10, 4118]), (59, [3113, 3115, 21004, 1, 3116]), (62, [])]
def bc_p153 : List (Nat × List Nat) := [(0, []), (1, []), (2, [3189, 3191, 21009, 1, 3192]), (5, []), (8, []), (9, []), (10, [3189, 3191, 21009, 1, 3192]), (13, []), (16, []), (17, []), (18, [2157, 2159, 20003, 1, 2160]), (21, []), (22, []), (23, [2049]), (26, [1178]), (29, [1110]), (32, []), (33, []), (35, []), (36, []), (37, []), (38, []), (39, []), (40, []), (41, []), (42, []), (45, []), (46, []), (48, [2157, 2159, 20003, 1, 2160]), (51, []), (54, []), (55, []), (56, [3113, 3115, 21004, 1, 3116]), (59, [])]
def bc_p154 : List (Nat × List Nat) := [(0, []), (1, []), (2, [3189, 3191, 21009, 1, 3192]), (5, []), (8, []), (9, []), (10, [2157, 2159, 20003, 1, 2160]), (13, []), (14, []), (15, []), (16, [2049]), (19, [1178]), (22, []), (23, [4128, 4129, 4130, 14, 4131]), (26, [3113, 3115, 21004, 1, 3116]), (29, [])]
def bc_p155 : List (Nat × List Nat) := [(0, []), (1, []), (2, []), (3, []), (4, [4136, 4138, 21013, 1, 4139]), (7, []), (9, []), (11, []), (14, []), (15, []), (17, [2157, 2159, 20003, 1, 2160]), (20, []), (23, []), (24, []), (25, [2047]), (28, [1022]), (31, [3113, 3115, 21004, 1, 3116]), (34, [])]
def bc_p156 : List (Nat × List Nat) := [(0, []), (2, []), (5, []), (6, []), (9, []), (10, []), (11, []), (12, []), (13, [4136, 4138, 21013, 1, 4139]), (16, []), (18, []), (20, []), (23, []), (24, []), (26, [2157, 2159, 20003, 1, 2160]), (29, []), (30, []), (32, []), (33, [4005, 4006, 21, 4007]), (36, []), (39, []), (41, []), (42, [2047]), (45, [1024]), (48, []), (49, []), (52, []), (53, []), (55, [2157, 2159, 20003, 1, 2160]), (58, []), (59, []), (60, []), (61, [2047]), (64, [1024]), (67, []), (69, []), (70, [3113, 3115, 21004, 1, 3116]), (73, [])]
def bc_p157 : List (Nat × List Nat) := [(0, []), (1, []), (2, [2049]), (5, [1181]), (8, []), (9, [2048]), (12, [4169, 4170, 4171, 15, 4172]), (15, [3113, 3115, 21004, 1, 3116]), (18, [])]
def bc_p158 : List (Nat × List Nat) := [(0, []), (1, []), (4, []), (5, []), (6, [2157, 2159, 20003, 1, 2160]), (9, []), (10, []), (11, []), (12, [2049]), (15, [1181]), (18, [1132]), (21, []), (24, []), (25, [2049]), (28, [1181]), (31, []), (32, [4177, 4178, 4179, 15, 4180]), (35, []), (38, []), (39, []), (40, []), (41, []), (42, []), (45, []), (46, []), (48, [2157, 2159, 20003, 1, 2160]), (51, []), (54, []), (55, []), (56, [3113, 3115, 21004, 1, 3116]), (59, [])]
def bc_p159 : List (Nat × List Nat) := [(0, []), (1, []), (2, [3225, 3227, 21012, 1, 3228]), (5, []), (8, []), (9, []), (10, [2157, 2159, 20003, 1, 2160]), (13, []), (14, []), (15, [2049]), (18, [1181]), (21, []), (22, [4177, 4178, 4179, 15, 4180]), (25, []), (26, []), (29, []), (30, []), (32, [2157, 2159, 20003, 1, 2160]), (35, []), (36, []), (37, []), (38, [2049]), (41, [1181]), (44, []), (45, [4186, 4187, 4188, 15, 4189]), (48, [4005, 4006, 21, 4007]), (51, [3113, 3115, 21004, 1, 3116]), (54, [])]
def bc_p160 : List (Nat × List Nat) := [(0, []), (1, []), (2, []), (4, [2117, 2115, 1, 2116]), (7, []), (10, []), (11, []), (12, [2157, 2159, 20003, 1, 2160]), (15, []), (16, []), (17, []), (18, [2049]), (21, [1181]), (24, []), (25, []), (26, [2048]), (29, [4194, 4195, 4196, 15, 4197]), (32, [3113, 3115, 21004, 1, 3116]), (35, [])]
def bc_p161 : List (Nat × List Nat) := [(0, []), (1, []), (2, []), (4, [2117, 2115, 1, 2116]), (7, []), (10, []), (11, []), (12, [2157, 2159, 20003, 1, 2160]), (15, []), (16, []), (17, []), (18, [2049]), (21, [1181]), (24, []), (25, []), (26, [2048]), (29, [4214, 4215, 4216, 15, 4217]), (32, [3113, 3115, 21004, 1, 3116]), (35, [])]
def bc_p162 : List (Nat × List Nat) := [(0, []), (1, []), (2, []), (4, [2117, 2115, 1, 2116]), (7, []), (10, []), (11, []), (12, [2157, 2159, 20003, 1, 2160]), (15, []), (16, []), (17, []), (18, [2049]), (21, [1172]), (24, []), (25, []), (26, [2048]), (29, [4223, 4224, 4225, 13, 4226]), (32, []), (33, []), (34, []), (35, []), (36, []), (37, []), (38, [2049]), (41, [1172]), (44, [1073]), (47, []), (50, []), (51, []), (52, [2048]), (55, []), (56, []), (57, []), (58, []), (59, []), (62, []), (65, []), (66, []), (67, [3113, 3115, 21004, 1, 3116]), (70, []), (71, [])]
def bc_p163 : List (Nat × List Nat) := [(0, []), (1, []), (2, []), (4, [2117, 2115, 1, 2116]), (7, []), (10, []), (11, []), (12, [3209, 3211, 21011, 1, 3212]), (15, []), (18, []), (19, []), (20, [2157, 2159, 20003, 1, 2160]), (23, []), (24, []), (25, []), (26, [2049]), (29, [1172]), (32, []), (33, []), (34, [2048]), (37, [4223, 4224, 4225, 13, 4226]), (40, []), (41, []), (42, [2048]), (45, []), (46, []), (47, [3113, 3115, 21004, 1, 3116]), (50, []), (51, [])]
def bc_p164 : List (Nat × List Nat) := [(0, []), (1, []), (2, []), (4, [2117, 2115, 1, 2116]), (7, []), (10, []), (11, []), (12, [2157, 2159, 20003, 1, 2160]), (15, []), (16, []), (17, [2049]), (20, [1172]), (23, []), (24, []), (25, [2048]), (28, [4235, 4236, 4237, 13, 4238]), (31, []), (32, []), (33, []), (36, []), (37, []), (39, [2157, 2159, 20003, 1, 2160]), (42, []), (45, []), (46, []), (47, [3113, 3115, 21004, 1, 3116]), (50, [])]
def bc_p165 : List (Nat × List Nat) := [(0, []), (1, []), (2, []), (4, [2117, 2115, 1, 2116]), (7, []), (10, []), (11, []), (14, []), (15, []), (16, [2157, 2159, 20003, 1, 2160]), (19, []), (20, []), (21, []), (22, []), (25, []), (26, [2049]), (29, [1172]), (32, []), (33, []), (34, [2048]), (37, [4235, 4236, 4237, 13, 4238]), (40, []), (43, []), (44, []), (46, [2157, 2159, 20003, 1, 2160]), (49, []), (50, []), (51, []), (52, [2049]), (55, [1172]), (58, []), (59, []), (60, []), (61, [2048]), (64, [5004, 5005, 5006, 13, 5007]), (67, [3113, 3115, 21004, 1, 3116]), (70, [])]
def bc_p166 : List (Nat × List Nat) := [(0, []), (1, []), (2, []), (3, []), (4, [5012, 5014, 22003, 1, 5015]), (7, []), (9, []), (11, []), (14, []), (15, []), (17, [2157, 2159, 20003, 1, 2160]), (20, []), (21, []), (22, []), (23, [2046]), (26, []), (27, [2049]), (30, []), (31, []), (32, [2042]), (35, []), (36, []), (37, [5017, 5018, 5019, 10, 5020]), (40, [5028, 5029, 22, 5030]), (43, [3113, 3115, 21004, 1, 3116]), (46, [])]
def bc_p167 : List (Nat × List Nat) := [(0, []), (2, []), (3, []), (4, [2117, 2115, 1, 2116]), (7, []), (10, []), (11, []), (12, []), (13, []), (14, [5012, 5014, 22003, 1, 5015]), (17, []), (20, []), (21, []), (23, []), (25, []), (28, []), (29, []), (31, [2157, 2159, 20003, 1, 2160]), (34, []), (35, []), (36, [2046]), (39, []), (40, [2049]), (43, []), (44, []), (45, [2042]), (48, []), (49, []), (50, [5017, 5018, 5019, 10, 5020]), (53, []), (55, []), (56, []), (58, []), (60, []), (62, []), (65, []), (67, []), (70, []), (72, []), (75, []), (77, []), (79, []), (80, []), (82, []), (84, []), (86, []), (87, []), (88, []), (89, []), (90, []), (91, []), (94, []), (95, []), (97, [3113, 3115, 21004, 1, 3116]), (100, []), (101, []), (104, []), (107, []), (108, []), (110, [2157, 2159, 20003, 1, 2160]), (113, [])]
def bc_p168 : List (Nat × List Nat) := [(0, []), (1, []), (2, []), (3, []), (4, [5012, 5014, 22003, 1, 5015]), (7, []), (9, []), (11, []), (14, []), (15, []), (17, [2157, 2159, 20003, 1, 2160]), (20, []), (21, []), (22, [2046]), (25, []), (26, [2049]), (29, []), (30, []), (31, [2042]), (34, []), (35, []), (36, [5017, 5018, 5019, 10, 5020]), (39, []), (41, []), (43, [5028, 5029, 22, 5030]), (46, []), (47, []), (50, []), (51, []), (53, [2157, 2159, 20003, 1, 2160]), (56, []), (57, []), (58, []), (59, [2046]), (62, []), (64, [5042, 5043, 5044, 10, 5045]), (67, [3113, 3115, 21004, 1, 3116]), (70, [])]
def bc_p169 : List (Nat × List Nat) := [(0, []), (1, []), (2, [3197, 3199, 21010, 1, 3200]), (5, []), (8, []), (9, []), (10, []), (11, [2117, 2115, 1, 2116]), (14, []), (17, []), (18, []), (19, [2157, 2159, 20003, 1, 2160]), (22, []), (23, []), (24, []), (25, [2047]), (28, []), (29, [2049]), (32, []), (33, []), (34, [5052, 5053, 5054, 11, 5055]), (37, [3113, 3115, 21004, 1, 3116]), (40, [])]
def bc_p170 : List (Nat × List Nat) := [(0, []), (1, []), (2, [3197, 3199, 21010, 1, 3200]), (5, []), (8, []), (9, []), (10, []), (11, [2117, 2115, 1, 2116]), (14, []), (17, []), (18, []), (19, [2157, 2159, 20003, 1, 2160]), (22, []), (23, []), (24, [2047]), (27, []), (28, [2049]), (31, []), (32, []), (33, [5052, 5053, 5054, 11, 5055]), (36, []), (37, []), (38, [2047]), (41, [1026]), (44, []), (45, []), (48, []), (49, []), (51, [2157, 2159, 20003, 1, 2160]), (54, []), (57, []), (58, []), (59, [2047]), (62, [1026]), (65, [3113, 3115, 21004, 1, 3116]), (68, [])]
def bc_p171 : List (Nat × List Nat) := [(0, []), (1, []), (2, []), (4, [2117, 2115, 1, 2116]), (7, []), (10, []), (11, []), (12, []), (14, [2117, 2115, 1, 2116]), (17, []), (20, []), (21, []), (22, [2118, 2120, 20000, 1, 2121]), (25, []), (26, []), (27, []), (28, []), (29, []), (31, []), (33, []), (34, []), (37, []), (38, []), (39, []), (41, [5082, 5083, 1, 5084]), (44, []), (45, [2049]), (48, [1161]), (51, []), (53, [5085, 5086, 1, 5087]), (56, []), (57, []), (59, []), (60, [2049]), (63, [1161]), (66, []), (67, []), (68, []), (70, []), (71, [5085, 5086, 1, 5087]), (74, []), (75, []), (76, []), (77, []), (80, []), (83, []), (84, []), (85, []), (87, []), (88, [5085, 5086, 1, 5087]), (91, [5088, 5090, 22009, 1, 5091]), (94, []), (95, [2126, 2128, 20001, 1, 2129]), (98, [])]
def bc_p172 : List (Nat × List Nat) := [(0, []), (1, [2111, 2112, 2, 2113]), (4, []), (7, []), (8, []), (9, [2157, 2159, 20003, 1, 2160]), (12, []), (13, []), (14, [2042]), (17, []), (18, [2138, 2139, 2140, 2, 2141]), (21, []), (24, []), (25, []), (26, [2157, 2159, 20003, 1, 2160]), (29, []), (30, []), (31, [2042]), (34, []), (35, []), (36, []), (37, [2049]), (40, [1167]), (43, [2142, 2143, 2144, 2, 2145]), (46, []), (49, []), (50, []), (51, [2157, 2159, 20003, 1, 2160]), (54, []), (55, []), (56, []), (57, []), (58, []), (59, [2049]), (62, [1167]), (65, []), (68, []), (69, [2042]), (72, []), (73, []), (74, []), (75, [2049]), (78, []), (79, [3201, 3202, 3203, 12, 3204]), (82, []), (83, [2146, 2147, 2148, 2, 2149]), (86, []), (89, []), (92, []), (93, []), (94, [2049]), (97, [1167]), (100, [3113, 3115, 21004, 1, 3116]), (103, [])]
def bc_p173 : List (Nat × List Nat) := [(0, []), (1, []), (2, []), (5, [2117, 2115, 1, 2116]), (8, []), (11, []), (12, []), (13, [2157, 2159, 20003, 1, 2160]), (16, []), (17, []), (18, [2051]), (21, [2002]), (24, []), (27, []), (28, []), (30, [2157, 2159, 20003, 1, 2160]), (33, []), (34, []), (35, [2045]), (38, []), (39, [2049]), (42, []), (43, [2051]), (46, []), (47, [5100, 5101, 5102, 9, 5103]), (50, []), (51, []), (52, [2040]), (55, []), (56, [2041]), (59, []), (60, []), (61, [2045]), (64, [202]), (67, []), (68, []), (69, [2041]), (72, []), (73, []), (74, [2045]), (77, [204]), (80, []), (81, []), (82, [2041]), (85, []), (86, []), (87, [2045]), (90, [206]), (93, []), (94, []), (95, [2041]), (98, []), (99, []), (100, [2045]), (103, [208]), (106, []), (107, []), (108, [2041]), (111, []), (112, []), (113, [2045]), (116, [210]), (119, []), (120, []), (121, []), (122, [2045]), (125, [200]), (128, [3113, 3115, 21004, 1, 3116]), (131, [])]
def bc_p174 : List (Nat × List Nat) := [(0, []), (1, []), (2, []), (3, [2041]), (6, []), (7, []), (8, []), (9, [2117, 2115, 1, 2116]), (12, []), (15, []), (16, []), (17, [2157, 2159, 20003, 1, 2160]), (20, []), (21, []), (22, [2040]), (25, []), (28, []), (29, []), (30, [2041]), (33, []), (34, []), (35, [3113, 3115, 21004, 1, 3116]), (38, []), (41, []), (42, []), (44, [2157, 2159, 20003, 1, 2160]), (47, [])]
def bc_p175 : List (Nat × List Nat) := [(0, []), (1, []), (2, []), (5, [2117, 2115, 1, 2116]), (8, []), (11, []), (12, []), (13, []), (15, [2117, 2115, 1, 2116]), (18, []), (21, []), (22, []), (25, []), (26, []), (27, []), (30, []), (31, []), (32, [2118, 2120, 20000, 1, 2121]), (35, []), (36, []), (37, [2051]), (40, [2002]), (43, []), (46, []), (47, []), (49, [2118, 2120, 20000, 1, 2121]), (52, []), (53, []), (54, []), (55, []), (56, []), (58, []), (60, []), (61, []), (64, []), (65, [2050]), (68, []), (69, [2049]), (72, [4091, 4092, 4093, 12, 4094]), (75, []), (76, [2045]), (79, []), (80, [2050]), (83, []), (84, [2051]), (87, []), (88, []), (90, []), (91, [5100, 5101, 5102, 9, 5103]), (94, []), (95, []), (96, [2050]), (99, [3167, 3168, 3169, 12, 3170]), (102, [4005, 4006, 21, 4007]), (105, []), (106, []), (107, []), (110, []), (113, []), (114, []), (115, []), (116, []), (117, []), (118, [5088, 5090, 22009, 1, 5091]), (121, []), (122, [2126, 2128, 20001, 1, 2129]), (125, [])]
def bc_p176 : List (Nat × List Nat) := [(0, []), (1, [2053]), (4, []), (5, []), (8, []), (9, []), (10, [2157, 2159, 20003, 1, 2160]), (13, []), (14, []), (15, [2054]), (18, []), (19, [2053]), (22, []), (23, []), (24, [2049]), (27, [4091, 4092, 4093, 12, 4094]), (30, []), (31, [2055]), (34, []), (35, [2053]), (38, []), (39, []), (40, [2051]), (43, [5153, 5154, 5155, 16, 5156]), (46, []), (47, []), (48, [2053]), (51, []), (52, []), (53, [2053]), (56, []), (57, []), (58, [2053]), (61, [3113, 3115, 21004, 1, 3116]), (64, [])]
def bc_p177 : List (Nat × List Nat) := [(0, []), (1, [2053]), (4, []), (7, []), (8, []), (10, [2157, 2159, 20003, 1, 2160]), (13, []), (14, []), (15, []), (16, [2053]), (19, []), (20, []), (21, [2053]), (24, []), (25, [2049]), (28, []), (29, [2054]), (32, []), (33, [2053]), (36, []), (37, [4091, 4092, 4093, 12, 4094]), (40, []), (41, [2051]), (44, []), (45, [2055]), (48, []), (49, [2053]), (52, []), (53, [5153, 5154, 5155, 16, 5156]), (56, []), (57, []), (58, [2053]), (61, [3113, 3115, 21004, 1, 3116]), (64, [])]
def bc_p178 : List (Nat × List Nat) := [(0, []), (1, []), (2, [2037]), (5, []), (6, [])]
def bc_p179 : List (Nat × List Nat) := [(0, []), (1, []), (2, [2037]), (5, []), (6, [])]
def bc_p180 : List (Nat × List Nat) := [(0, []), (1, []), (2, [2037]), (5, []), (6, [])]
def bc_p181 : List (Nat × List Nat) := [(0, []), (1, []), (2, [2037]), (5, []), (6, [])]
def bc_p182 : List (Nat × List Nat) := [(0, []), (1, []), (2, []), (5, []), (6, []), (7, []), (10, []), (11, []), (14, []), (15, [])]
def bc_p183 : List (Nat × List Nat) := [(0, []), (1, []), (2, []), (3, []), (4, []), (5, []), (8, []), (9, []), (12, []), (13, [])]
def bc_p184 : List (Nat × List Nat) := [(0, []), (1, []), (2, []), (3, [2049]), (6, [1172]), (9, [1073]), (12, []), (13, []), (14, [2117, 2115, 1, 2116]), (17, [])]
def bc_p185 : List (Nat × List Nat) := [(0, []), (1, []), (2, []), (3, [2049]), (6, [1178]), (9, [1092]), (12, []), (13, []), (14, [2117, 2115, 1, 2116]), (17, [])]
def bc_p186 : List (Nat × List Nat) := [(0, []), (1, []), (2, []), (3, [2049]), (6, [1167]), (9, []), (10, []), (11, [2117, 2115, 1, 2116]), (14, [])]
def bc_p187 : List (Nat × List Nat) := [(0, []), (1, []), (2, []), (3, [2049]), (6, [1181]), (9, [1132]), (12, []), (13, []), (14, [2117, 2115, 1, 2116]), (17, [])]
def bc_p188 : List (Nat × List Nat) := [(0, []), (1, [2111, 2112, 2, 2113]), (4, []), (7, []), (8, []), (9, []), (10, [2042]), (13, []), (14, [2138, 2139, 2140, 2, 2141]), (17, []), (20, []), (21, []), (22, []), (23, []), (26, []), (27, [2042]), (30, []), (31, []), (32, []), (33, [2142, 2143, 2144, 2, 2145]), (36, []), (39, []), (40, []), (43, []), (44, [])]
def bc_p189 : List (Nat × List Nat) := [(0, []), (1, []), (2, [3197, 3199, 21010, 1, 3200]), (5, []), (8, []), (9, []), (10, []), (12, [2117, 2115, 1, 2116]), (15, []), (18, []), (19, []), (20, []), (21, []), (22, [2049]), (25, [1178]), (28, [1092]), (31, []), (32, []), (33, []), (34, [2117, 2115, 1, 2116]), (37, []), (40, []), (41, [4005, 4006, 21, 4007]), (44, []), (45, []), (48, []), (49, []), (50, []), (51, [2049]), (54, []), (55, [3217, 3172, 3173, 12, 3174]), (58, []), (61, []), (62, [2049]), (65, [1194]), (68, []), (69, []), (70, []), (73, []), (75, []), (76, []), (77, [2047]), (80, []), (81, [2049]), (84, []), (85, []), (86, []), (87, [4140, 4141, 4142, 11, 4143]), (90, []), (93, []), (94, []), (97, []), (99, [])]
def bc_p190 : List (Nat × List Nat) := [(0, []), (1, []), (2, [3197, 3199, 21010, 1, 3200]), (5, []), (8, []), (9, [2111, 2112, 2, 2113]), (12, []), (15, []), (16, []), (17, []), (19, [2117, 2115, 1, 2116]), (22, []), (25, []), (26, []), (27, []), (28, [2042]), (31, []), (32, [2138, 2139, 2140, 2, 2141]), (35, []), (38, []), (39, []), (40, []), (41, [2042]), (44, []), (45, []), (46, []), (47, []), (48, []), (49, [2142, 2143, 2144, 2, 2145]), (52, []), (55, []), (56, []), (57, []), (58, []), (60, []), (62, []), (63, []), (66, []), (67, [2042]), (70, []), (71, []), (72, []), (74, []), (75, [2161, 2162, 2163, 2, 2164]), (78, []), (80, []), (81, [2042]), (84, []), (85, []), (86, []), (88, []), (89, []), (90, []), (91, [2161, 2162, 2163, 2, 2164]), (94, []), (96, []), (98, []), (99, []), (100, []), (103, []), (105, [5016]), (108, []), (109, []), (112, []), (114, []), (115, []), (116, []), (119, []), (121, []), (122, [2049]), (125, [1172]), (128, [1073]), (131, []), (132, []), (133, []), (136, []), (137, []), (138, []), (141, []), (144, []), (145, [])]
def bc_p191 : List (Nat × List Nat) := [(0, []), (1, []), (3, []), (4, []), (6, []), (7, []), (9, []), (11, []), (14, []), (17, []), (19, []), (20, []), (21, []), (24, []), (26, []), (28, []), (29, []), (31, []), (33, []), (35, []), (37, []), (39, []), (42, []), (45, []), (47, []), (48, []), (49, []), (52, []), (53, []), (54, []), (56, []), (57, [2038]), (60, []), (61, []), (62, []), (64, []), (65, [2039]), (68, [])]
def bc_p192 : List (Nat × List Nat) := [(0, []), (1, []), (2, []), (3, []), (5, []), (7, []), (8, []), (11, []), (12, []), (13, []), (14, []), (15, []), (16, []), (19, []), (22, []), (23, [])]
def bc_p193 : List (Nat × List Nat) := [(0, []), (1, []), (2, []), (3, []), (5, []), (7, []), (8, []), (11, []), (12, []), (13, []), (15, []), (16, []), (17, []), (18, []), (20, []), (21, []), (22, []), (23, []), (24, []), (25, []), (28, []), (31, []), (32, [])]
def bc_p194 : List (Nat × List Nat) := [(0, []), (1, [5167, 29, 30]), (4, []), (5, []), (8, [47]), (10, [5172]), (13, []), (14, []), (17, [48]), (19, [5173]), (22, []), (23, []), (24, [5176]), (27, []), (28, []), (29, [47]), (31, [5177]), (34, []), (35, []), (36, [47]), (38, []), (39, []), (40, []), (41, []), (42, []), (43, []), (44, []), (45, []), (46, []), (47, []), (48, []), (49, []), (50, []), (51, []), (52, []), (53, []), (54, [5178]), (57, []), (58, []), (61, [48]), (63, [5179]), (66, []), (67, []), (70, [158]), (72, [5180]), (75, []), (76, []), (79, [158]), (81, [5181]), (84, []), (85, []), (86, [5188]), (89, []), (90, []), (91, [5189]), (94, []), (95, []), (96, [47]), (98, [5193]), (101, []), (102, []), (104, [47]), (106, [5196]), (109, []), (110, []), (112, [47]), (114, [5197]), (117, []), (118, []), (120, [47]), (122, [5198]), (125, []), (126, []), (127, [47]), (129, [5199]), (132, []), (133, []), (136, [47]), (138, [5201]), (141, []), (142, []), (145, [47]), (147, [5202]), (150, []), (151, []), (152, [48]), (154, [5203]), (157, []), (158, []), (159, [48]), (161, [5204]), (164, []), (165, []), (167, [47]), (169, [5205]), (172, []), (173, []), (176, [47]), (178, [5206]), (181, []), (182, []), (185, [47]), (187, [5207]), (190, []), (191, []), (193, [6083]), (195, [5208]), (198, []), (199, []), (201, [47]), (203, [5210]), (206, []), (207, []), (208, [47]), (210, [5211]), (213, []), (214, []), (215, [47]), (217, [5212]), (220, []), (221, []), (222, [47]), (224, [5213]), (227, []), (228, []), (230, [48]), (232, [5214]), (235, []), (236, []), (238, [47]), (240, [5217]), (243, []), (244, []), (245, [47]), (247, [5218]), (250, []), (251, []), (252, [47]), (254, [5219]), (257, []), (258, []), (259, [5168, 5170, 23001, 17, 5171]), (262, [])]
def bc_p195 : List (Nat × List Nat) := [(0, []), (1, []), (2, []), (3, []), (6, []), (9, []), (10, [5172]), (13, []), (14, []), (15, []), (16, []), (17, []), (18, []), (21, []), (24, []), (25, [5172]), (28, []), (29, []), (30, []), (31, []), (33, []), (34, []), (35, [5172]), (38, []), (39, []), (40, []), (41, []), (42, []), (43, []), (44, [5172]), (47, []), (48, []), (50, []), (51, []), (52, []), (53, [])]
def bc_p196 : List (Nat × List Nat) := [(0, []), (1, [5174]), (4, [])]
def bc_p197 : List (Nat × List Nat) := [(0, []), (1, [5175]), (4, [])]
def bc_p198 : List (Nat × List Nat) := [(0, []), (1, [5176]), (4, [])]
def bc_p199 : List (Nat × List Nat) := [(0, []), (1, []), (2, [5174]), (5, []), (6, []), (9, []), (10, []), (13, []), (14, [])]
def bc_p200 : List (Nat × List Nat) := [(0, []), (1, []), (2, [5174]), (5, []), (6, [])]
def bc_p201 : List (Nat × List Nat) := [(0, []), (1, []), (2, [5174]), (5, []), (6, [])]
def bc_p202 : List (Nat × List Nat) := [(0, []), (1, []), (2, []), (5, []), (6, []), (8, [6163, 6165, 23008, 17, 6166]), (11, []), (14, []), (15, []), (16, [7035, 7037, 25001, 17, 7038]), (19, [])]
def bc_p203 : List (Nat × List Nat) := [(0, []), (1, []), (3, []), (4, []), (6, []), (8, []), (9, []), (10, []), (13, []), (15, []), (17, []), (18, []), (20, []), (22, []), (24, []), (26, []), (28, []), (31, []), (32, []), (33, []), (35, []), (36, [5175]), (39, []), (40, []), (41, []), (43, []), (44, [5176]), (47, []), (48, []), (49, [6103, 6105, 23002, 17, 6106]), (52, [])]
def bc_p204 : List (Nat × List Nat) := [(0, []), (1, []), (4, []), (5, []), (6, []), (9, []), (10, []), (13, []), (14, [])]
def bc_p205 : List (Nat × List Nat) := [(0, []), (1, []), (4, []), (5, []), (6, []), (7, []), (8, []), (11, []), (12, []), (13, []), (16, []), (17, []), (18, []), (19, []), (20, []), (23, []), (24, []), (25, []), (28, []), (29, []), (30, []), (31, []), (34, []), (35, [])]
def bc_p206 : List (Nat × List Nat) := [(0, []), (1, [6100, 6101, 17, 6102]), (4, []), (7, []), (8, []), (11, []), (12, []), (13, []), (16, []), (17, []), (20, []), (21, []), (23, []), (26, []), (27, []), (28, [6103, 6105, 23002, 17, 6106]), (31, []), (32, []), (33, [5177]), (36, []), (37, []), (38, []), (39, []), (40, [5178]), (43, []), (44, []), (45, []), (46, []), (47, []), (49, []), (51, []), (52, []), (55, []), (56, [5179]), (59, []), (61, []), (62, []), (63, []), (65, []), (66, []), (67, []), (68, []), (71, []), (74, []), (75, []), (76, [6103, 6105, 23002, 17, 6106]), (79, [])]
def bc_p207 : List (Nat × List Nat) := [(0, []), (1, [6100, 6101, 17, 6102]), (4, []), (7, []), (8, []), (11, []), (12, [5178]), (15, []), (16, []), (17, []), (18, []), (21, []), (22, []), (25, []), (26, []), (29, []), (30, []), (31, [5178]), (34, []), (35, []), (36, []), (39, []), (40, []), (43, []), (44, [])]
def bc_p208 : List (Nat × List Nat) := [(0, []), (1, []), (2, []), (3, [6111, 6113, 23003, 17, 6114]), (6, []), (8, []), (10, []), (13, []), (14, [5179]), (17, []), (19, []), (20, []), (21, []), (22, []), (23, []), (24, []), (25, [5177]), (28, []), (29, []), (30, [6115, 6116, 17, 6117]), (33, []), (34, []), (35, []), (37, [6103, 6105, 23002, 17, 6106]), (40, [])]
def bc_p209 : List (Nat × List Nat) := [(0, []), (1, []), (2, []), (3, []), (4, [6111, 6113, 23003, 17, 6114]), (7, [5174]), (10, []), (11, [5174]), (14, []), (17, [6122]), (20, []), (23, []), (24, [5179]), (27, []), (29, []), (30, []), (31, []), (32, []), (33, []), (34, [])]
def bc_p210 : List (Nat × List Nat) := [(0, []), (1, [6100, 6101, 17, 6102]), (4, []), (7, []), (8, [6100, 6101, 17, 6102]), (11, []), (14, []), (15, []), (18, []), (20, []), (23, []), (25, []), (28, []), (29, []), (30, [6103, 6105, 23002, 17, 6106]), (33, []), (34, []), (35, [5178]), (38, []), (39, []), (40, []), (41, []), (44, []), (45, [5178]), (48, []), (49, []), (50, []), (51, []), (54, []), (55, []), (56, [6103, 6105, 23002, 17, 6106]), (59, []), (60, []), (61, [5177]), (64, []), (65, []), (66, []), (67, [5177]), (70, []), (71, []), (72, []), (75, []), (76, []), (78, [6103, 6105, 23002, 17, 6106]), (81, []), (82, []), (84, []), (85, [5178]), (88, []), (89, []), (90, []), (91, []), (92, []), (95, []), (97, []), (98, [5178]), (101, []), (102, []), (103, []), (105, []), (106, []), (109, []), (110, []), (111, [6103, 6105, 23002, 17, 6106]), (114, []), (115, []), (116, []), (118, []), (120, []), (122, []), (125, []), (126, []), (128, []), (131, []), (133, []), (134, []), (135, []), (137, []), (138, []), (141, []), (143, []), (145, []), (146, [5179]), (149, []), (151, []), (152, []), (153, []), (155, []), (156, []), (158, []), (159, []), (160, [5179]), (163, []), (165, []), (166, []), (167, []), (168, []), (169, []), (171, []), (172, []), (173, []), (174, []), (177, []), (180, []), (181, []), (182, [6103, 6105, 23002, 17, 6106]), (185, [])]
def bc_p211 : List (Nat × List Nat) := [(0, []), (1, []), (2, []), (3, []), (6, []), (7, []), (9, []), (10, []), (13, []), (14, []), (17, []), (18, [])]
def bc_p212 : List (Nat × List Nat) := [(0, []), (1, [5182]), (4, []), (6, []), (7, []), (10, []), (13, []), (14, []), (15, []), (16, []), (17, [6131, 6133, 23004, 17, 6134]), (20, []), (21, []), (22, [6131, 6133, 23004, 17, 6134]), (25, []), (26, []), (27, [6131, 6133, 23004, 17, 6134]), (30, []), (31, []), (33, [6131, 6133, 23004, 17, 6134]), (36, []), (37, []), (39, [6131, 6133, 23004, 17, 6134]), (42, []), (43, [5182]), (46, [])]
def bc_p213 : List (Nat × List Nat) := [(0, []), (2, []), (3, []), (4, []), (7, []), (8, [5180]), (11, []), (12, [5182]), (15, []), (16, []), (17, []), (18, []), (19, []), (20, []), (21, []), (22, [5182]), (25, []), (26, []), (27, [5182]), (30, []), (33, []), (36, [])]
def bc_p214 : List (Nat × List Nat) := [(0, []), (1, []), (2, [5183]), (5, []), (8, []), (9, [5181]), (12, []), (13, []), (14, []), (17, []), (18, []), (21, []), (22, [])]
def bc_p215 : List (Nat × List Nat) := [(0, []), (1, []), (3, []), (6, []), (7, []), (9, []), (12, []), (13, []), (16, []), (17, [])]
def bc_p216 : List (Nat × List Nat) := [(0, []), (1, []), (3, []), (6, []), (7, []), (9, []), (12, []), (13, []), (16, []), (17, [])]
def bc_p217 : List (Nat × List Nat) := [(0, []), (1, []), (2, [5186]), (5, [6151, 6153, 23007, 17, 6154]), (8, []), (10, []), (13, []), (14, []), (15, [5186]), (18, [6151, 6153, 23007, 17, 6154]), (21, []), (23, []), (26, []), (27, []), (28, [5186]), (31, []), (32, []), (33, [5186]), (36, []), (39, []), (40, []), (41, [5186]), (44, [5185]), (47, []), (48, []), (49, [5186]), (52, [6151, 6153, 23007, 17, 6154]), (55, []), (56, []), (57, []), (58, [5187]), (61, []), (62, []), (63, []), (66, []), (67, []), (68, [5184]), (71, []), (74, []), (75, [6155, 6156, 17, 6157]), (78, []), (81, []), (82, []), (83, [5186]), (86, [6151, 6153, 23007, 17, 6154]), (89, [6155, 6156, 17, 6157]), (92, []), (95, []), (96, []), (97, [5186]), (100, []), (101, []), (102, [5186]), (105, []), (108, []), (109, []), (110, [5184]), (113, []), (116, []), (117, [6158, 6159, 17, 6160]), (120, []), (123, []), (124, []), (125, [5187]), (128, []), (129, []), (130, [5186]), (133, [6151, 6153, 23007, 17, 6154]), (136, [6158, 6159, 17, 6160]), (139, []), (142, []), (143, [6161]), (145, []), (147, []), (148, [5187]), (151, []), (152, []), (153, []), (154, [5186]), (157, [6151, 6153, 23007, 17, 6154]), (160, []), (161, []), (163, []), (164, [6162, 2221, 20, 2222]), (167, [5187]), (170, []), (171, []), (172, [5186]), (175, []), (176, []), (177, [5186]), (180, []), (183, []), (184, []), (185, [5186]), (188, []), (189, [5185]), (192, []), (193, []), (194, []), (197, []), (198, []), (201, []), (202, [5184]), (205, []), (208, []), (209, []), (210, [5186]), (213, []), (214, []), (215, [5186]), (218, []), (219, []), (220, []), (222, []), (225, []), (226, []), (228, []), (231, []), (232, []), (234, []), (237, []), (238, []), (240, []), (243, []), (244, []), (247, []), (248, [5184]), (251, [])]
def bc_p218 : List (Nat × List Nat) := [(0, []), (1, [5184]), (4, []), (5, []), (8, []), (9, [5187]), (12, []), (13, []), (16, []), (17, []), (20, []), (21, [])]
def bc_p219 : List (Nat × List Nat) := [(0, []), (1, [5184]), (4, []), (5, []), (8, []), (9, []), (10, []), (11, []), (12, []), (13, []), (14, []), (15, []), (16, [6176, 57, 58, 4, 59]), (19, []), (22, []), (23, []), (25, []), (26, []), (28, [6177, 67, 68, 4, 69]), (31, []), (33, []), (36, []), (39, []), (42, []), (44, []), (45, []), (46, []), (47, [5186]), (50, []), (51, [5185]), (54, []), (55, []), (58, []), (59, []), (62, []), (63, []), (65, []), (66, []), (68, []), (70, []), (72, []), (75, []), (77, []), (80, []), (81, []), (83, [6177, 67, 68, 4, 69]), (86, []), (87, []), (88, [5185]), (91, []), (93, []), (94, []), (95, []), (96, [6151, 6153, 23007, 17, 6154]), (99, []), (102, []), (103, []), (106, []), (107, []), (109, []), (112, []), (115, []), (117, []), (120, []), (121, []), (122, []), (125, []), (127, []), (128, []), (129, []), (130, []), (133, []), (134, [])]
def bc_p220 : List (Nat × List Nat) := [(0, []), (1, [5190]), (4, []), (7, []), (8, []), (9, [5184]), (12, []), (13, []), (16, []), (17, []), (20, []), (21, [5190]), (24, []), (25, []), (26, [5185]), (29, [5189]), (32, []), (33, [])]
def bc_p221 : List (Nat × List Nat) := [(0, []), (1, []), (4, []), (5, []), (6, [5182]), (9, []), (12, []), (13, []), (14, []), (17, []), (18, []), (19, []), (20, []), (21, [5183]), (24, []), (25, []), (26, []), (27, []), (28, []), (31, []), (32, [5181]), (35, []), (36, []), (37, [5180]), (40, []), (41, []), (42, []), (43, []), (46, []), (49, []), (50, []), (51, [5182]), (54, []), (55, []), (56, [5190]), (59, []), (60, []), (61, [5189]), (64, []), (65, []), (66, [5186]), (69, []), (70, []), (71, [5191]), (74, []), (75, [6147, 6149, 23006, 17, 6150]), (78, []), (79, [])]
def bc_p222 : List (Nat × List Nat) := [(0, []), (1, []), (2, [7027, 7029, 24015, 17, 7030]), (5, []), (8, []), (9, []), (10, [6178, 6180, 23011, 17, 6181]), (13, []), (14, []), (15, [6147, 6149, 23006, 17, 6150]), (18, []), (19, [])]
def bc_p223 : List (Nat × List Nat) := [(0, []), (1, []), (2, [6172, 6174, 23010, 17, 6175]), (5, []), (6, []), (9, []), (10, []), (11, [6178, 6180, 23011, 17, 6181]), (14, []), (15, []), (16, [6147, 6149, 23006, 17, 6150]), (19, []), (20, [])]
def bc_p224 : List (Nat × List Nat) := [(0, []), (1, [5184]), (4, []), (5, []), (8, []), (9, []), (10, [6178, 6180, 23011, 17, 6181]), (13, []), (14, []), (15, [5187]), (18, []), (19, []), (22, []), (23, [5187]), (26, []), (27, []), (30, []), (31, []), (32, [6178, 6180, 23011, 17, 6181]), (35, []), (36, []), (37, [5172]), (40, []), (41, []), (42, [5187]), (45, []), (46, []), (47, [6147, 6149, 23006, 17, 6150]), (50, []), (51, [])]
def bc_p225 : List (Nat × List Nat) := [(0, []), (1, [5184]), (4, []), (5, []), (8, []), (9, [5186]), (12, []), (13, [5185]), (16, []), (17, []), (19, []), (22, []), (23, []), (24, [6172, 6174, 23010, 17, 6175]), (27, []), (28, []), (31, []), (32, []), (35, []), (36, [])]
def bc_p226 : List (Nat × List Nat) := [(0, []), (1, []), (2, []), (3, [5185]), (6, []), (7, []), (8, []), (9, [5186]), (12, []), (15, []), (16, []), (18, []), (19, []), (20, []), (21, [6151, 6153, 23007, 17, 6154]), (24, []), (25, []), (26, []), (27, []), (30, []), (33, []), (34, [])]
def bc_p227 : List (Nat × List Nat) := [(0, []), (1, []), (2, []), (3, []), (4, []), (7, []), (8, [5173]), (11, []), (12, []), (13, []), (14, []), (15, []), (16, [6206, 6208, 24002, 17, 6209]), (19, []), (20, []), (23, []), (24, []), (25, []), (28, []), (31, []), (32, [])]
def bc_p228 : List (Nat × List Nat) := [(0, []), (1, []), (4, []), (5, [5188]), (8, []), (11, []), (12, []), (13, []), (16, []), (17, [5189]), (20, []), (23, []), (24, [])]
def bc_p229 : List (Nat × List Nat) := [(0, []), (1, []), (2, [5190]), (5, [5188]), (8, []), (9, [5190]), (12, []), (15, []), (16, []), (18, [6163, 6165, 23008, 17, 6166]), (21, []), (24, []), (25, []), (26, [7035, 7037, 25001, 17, 7038]), (29, [])]
def bc_p230 : List (Nat × List Nat) := [(0, []), (2, []), (3, []), (4, []), (5, []), (6, [])]
def bc_p231 : List (Nat × List Nat) := [(0, []), (2, []), (4, []), (5, []), (6, []), (7, [])]
def bc_p232 : List (Nat × List Nat) := [(0, []), (2, []), (3, []), (4, []), (5, []), (6, [])]
def bc_p233 : List (Nat × List Nat) := [(0, []), (1, []), (3, [6172, 6174, 23010, 17, 6175]), (6, []), (7, []), (10, []), (11, []), (12, []), (13, [6147, 6149, 23006, 17, 6150]), (16, []), (17, [])]
def bc_p234 : List (Nat × List Nat) := [(0, []), (1, []), (3, []), (4, [5172]), (7, []), (10, []), (11, [6202, 6204, 24001, 17, 6205]), (14, []), (15, []), (18, []), (19, []), (21, []), (22, [5172]), (25, []), (28, []), (29, [6202, 6204, 24001, 17, 6205]), (32, []), (33, []), (36, []), (37, []), (38, []), (39, []), (41, []), (42, [5172]), (45, []), (48, []), (49, [6202, 6204, 24001, 17, 6205]), (52, []), (53, []), (56, []), (57, []), (59, []), (60, [5172]), (63, []), (66, []), (67, [6202, 6204, 24001, 17, 6205]), (70, []), (71, []), (74, []), (75, []), (78, []), (79, [])]
def bc_p235 : List (Nat × List Nat) := [(0, []), (1, [5172]), (4, []), (7, []), (8, []), (9, []), (10, []), (11, []), (14, []), (15, []), (17, [6178, 6180, 23011, 17, 6181]), (20, []), (21, []), (22, [6147, 6149, 23006, 17, 6150]), (25, []), (26, []), (28, [6194, 6196, 23015, 17, 6197]), (31, []), (34, []), (35, []), (36, [6178, 6180, 23011, 17, 6181]), (39, []), (40, []), (41, [6198, 6200, 24000, 17, 6201]), (44, []), (47, []), (48, []), (49, [6178, 6180, 23011, 17, 6181]), (52, []), (53, []), (54, [5173]), (57, []), (59, []), (60, []), (61, []), (62, [5172]), (65, []), (68, []), (69, []), (70, []), (71, []), (72, []), (73, [6206, 6208, 24002, 17, 6209]), (76, []), (77, []), (78, [6147, 6149, 23006, 17, 6150]), (81, []), (82, [])]
def bc_p236 : List (Nat × List Nat) := [(0, []), (1, []), (3, [6194, 6196, 23015, 17, 6197]), (6, []), (9, []), (10, []), (11, [6178, 6180, 23011, 17, 6181]), (14, []), (15, []), (16, [5172]), (19, []), (20, []), (21, []), (22, []), (23, [6202, 6204, 24001, 17, 6205]), (26, []), (27, []), (28, [5172]), (31, []), (32, []), (33, []), (34, []), (37, []), (38, []), (39, [6178, 6180, 23011, 17, 6181]), (42, []), (43, []), (44, [6147, 6149, 23006, 17, 6150]), (47, []), (48, [])]
def bc_p237 : List (Nat × List Nat) := [(0, []), (1, []), (2, []), (3, []), (4, [6225, 6227, 24006, 17, 6228]), (7, []), (10, []), (11, []), (12, []), (13, []), (15, [6194, 6196, 23015, 17, 6197]), (18, []), (21, []), (22, []), (23, []), (24, [6202, 6204, 24001, 17, 6205]), (27, []), (28, [5172]), (31, []), (32, []), (33, []), (36, []), (37, []), (38, [6178, 6180, 23011, 17, 6181]), (41, []), (42, []), (43, []), (44, []), (45, []), (46, []), (47, []), (48, [6225, 6227, 24006, 17, 6228]), (51, [])]
def bc_p238 : List (Nat × List Nat) := [(0, []), (1, []), (3, []), (4, [5172]), (7, []), (10, []), (11, []), (12, [6225, 6227, 24006, 17, 6228]), (15, [])]
def bc_p239 : List (Nat × List Nat) := [(0, []), (1, []), (2, []), (3, []), (4, [6190, 6192, 23014, 17, 6193]), (7, []), (10, []), (11, []), (12, []), (13, [5172]), (16, []), (19, []), (20, []), (21, []), (22, []), (23, []), (24, []), (25, [])]
def bc_p240 : List (Nat × List Nat) := [(0, []), (3, []), (4, [5172]), (7, []), (10, []), (11, [6214, 6215, 17, 6216]), (14, []), (15, []), (16, []), (17, []), (18, []), (20, []), (21, [6190, 6192, 23014, 17, 6193]), (24, []), (27, []), (28, []), (29, []), (30, [5172]), (33, []), (34, []), (35, []), (36, []), (37, []), (39, [6217, 6219, 24004, 17, 6220]), (42, []), (45, []), (46, []), (47, [6221, 6223, 24005, 17, 6224]), (50, []), (53, []), (54, []), (56, []), (58, [6229, 6231, 24007, 17, 6232]), (61, []), (64, []), (65, []), (66, []), (67, []), (68, []), (69, []), (71, [6182, 6184, 23012, 17, 6185]), (74, []), (77, []), (78, []), (79, []), (80, [5172]), (83, []), (86, []), (87, []), (88, []), (89, []), (90, []), (91, []), (92, [])]
def bc_p241 : List (Nat × List Nat) := [(0, []), (1, [5172]), (4, []), (7, []), (8, []), (10, []), (13, []), (14, []), (16, [6178, 6180, 23011, 17, 6181]), (19, []), (20, []), (23, []), (24, []), (25, [5172]), (28, []), (31, []), (32, []), (33, []), (34, []), (35, []), (36, [6147, 6149, 23006, 17, 6150]), (39, []), (40, []), (42, []), (43, [5172]), (46, []), (49, []), (50, []), (51, [6237, 6239, 24009, 17, 7000]), (54, []), (57, []), (58, []), (60, []), (62, [6229, 6231, 24007, 17, 6232]), (65, []), (68, []), (69, []), (70, []), (71, []), (72, []), (73, []), (75, [6182, 6184, 23012, 17, 6185]), (78, []), (81, []), (82, []), (83, []), (84, [5172]), (87, []), (90, []), (91, []), (92, []), (93, []), (94, []), (95, []), (96, [])]
def bc_p242 : List (Nat × List Nat) := [(0, []), (3, []), (4, [5172]), (7, []), (10, []), (11, [7005, 7006, 17, 7007]), (14, []), (15, []), (16, []), (17, []), (18, []), (20, []), (22, [6190, 6192, 23014, 17, 6193]), (25, []), (28, []), (29, []), (31, []), (33, [6229, 6231, 24007, 17, 6232]), (36, []), (39, []), (40, []), (41, []), (42, []), (44, [6182, 6184, 23012, 17, 6185]), (47, []), (50, []), (51, []), (52, []), (53, []), (55, []), (57, [6229, 6231, 24007, 17, 6232]), (60, []), (63, []), (64, []), (66, []), (67, [5172]), (70, []), (73, []), (74, []), (75, []), (76, []), (77, [6225, 6227, 24006, 17, 6228]), (80, []), (83, []), (84, []), (85, []), (86, [5172]), (89, []), (92, []), (93, []), (94, []), (95, []), (96, []), (97, []), (98, [])]
def bc_p243 : List (Nat × List Nat) := [(0, []), (3, []), (4, [5172]), (7, []), (10, []), (11, [7012, 7013, 17, 7014]), (14, []), (15, []), (16, []), (17, []), (18, []), (20, []), (22, [6190, 6192, 23014, 17, 6193]), (25, []), (28, []), (29, []), (31, []), (33, [6229, 6231, 24007, 17, 6232]), (36, []), (39, []), (40, []), (41, [6221, 6223, 24005, 17, 6224]), (44, []), (47, []), (48, []), (49, []), (50, []), (52, []), (54, [6229, 6231, 24007, 17, 6232]), (57, []), (60, []), (61, []), (62, []), (63, []), (64, []), (65, []), (67, [6182, 6184, 23012, 17, 6185]), (70, []), (73, []), (74, []), (75, []), (76, []), (77, []), (78, []), (79, []), (80, []), (82, [6182, 6184, 23012, 17, 6185]), (85, []), (88, []), (89, []), (90, []), (91, [5172]), (94, []), (97, []), (98, []), (99, []), (100, []), (101, []), (102, []), (103, [])]
def bc_p244 : List (Nat × List Nat) := [(0, []), (3, []), (4, []), (5, [6147, 6149, 23006, 17, 6150]), (8, []), (9, []), (11, []), (12, [5172]), (15, []), (18, []), (19, []), (20, [6237, 6239, 24009, 17, 7000]), (23, []), (26, []), (27, []), (28, []), (29, [5172]), (32, []), (35, []), (36, [5172]), (39, []), (40, []), (41, [7012, 7013, 17, 7014]), (44, []), (45, []), (46, []), (47, []), (48, []), (49, []), (50, []), (51, [5172]), (54, []), (55, []), (56, []), (57, []), (58, []), (59, []), (60, []), (61, []), (62, [])]
def bc_p245 : List (Nat × List Nat) := [(0, []), (3, []), (4, []), (5, [6147, 6149, 23006, 17, 6150]), (8, []), (9, []), (10, [6221, 6223, 24005, 17, 6224]), (13, []), (16, []), (17, []), (18, []), (19, []), (20, [6221, 6223, 24005, 17, 6224]), (23, []), (26, []), (27, []), (29, []), (31, [6229, 6231, 24007, 17, 6232]), (34, []), (37, []), (38, []), (39, []), (40, []), (43, []), (44, []), (45, [5172]), (48, []), (49, []), (50, []), (51, []), (52, []), (53, [5172]), (56, []), (57, []), (58, []), (59, []), (60, []), (61, []), (62, []), (64, [6182, 6184, 23012, 17, 6185]), (67, [])]
def bc_p246 : List (Nat × List Nat) := [(0, []), (1, []), (3, [6172, 6174, 23010, 17, 6175]), (6, []), (7, []), (8, []), (11, []), (12, []), (14, []), (17, []), (18, []), (19, [6178, 6180, 23011, 17, 6181]), (22, []), (23, []), (24, []), (25, []), (28, []), (29, [5192]), (32, []), (33, []), (34, []), (35, []), (36, []), (37, []), (40, []), (41, []), (42, [6178, 6180, 23011, 17, 6181]), (45, []), (46, []), (47, []), (48, [5192]), (51, []), (52, []), (53, []), (54, []), (55, [5192]), (58, []), (59, []), (60, []), (63, []), (64, [6147, 6149, 23006, 17, 6150]), (67, []), (68, []), (116, []), (117, []), (120, []), (121, []), (123, [6182, 6184, 23012, 17, 6185]), (126, []), (127, []), (130, []), (131, []), (134, []), (135, []), (137, [6182, 6184, 23012, 17, 6185]), (140, []), (141, []), (144, []), (145, [6186, 6188, 23013, 17, 6189]), (148, []), (149, []), (152, []), (153, [6210, 6212, 24003, 17, 6213]), (156, []), (157, []), (160, []), (161, [6233, 6235, 24008, 17, 6236]), (164, []), (165, []), (168, []), (169, [7001, 7003, 24010, 17, 7004]), (172, []), (173, []), (176, []), (177, [7008, 7010, 24011, 17, 7011]), (180, []), (181, []), (184, []), (185, [7015, 7017, 24012, 17, 7018]), (188, []), (189, []), (192, []), (193, [7019, 7021, 24013, 17, 7022]), (196, []), (197, []), (198, []), (201, []), (202, []), (204, [7023, 7025, 24014, 17, 7026]), (207, []), (210, []), (211, []), (214, []), (215, [])]
def bc_p247 : List (Nat × List Nat) := [(0, []), (1, []), (2, []), (5, [6143, 6145, 23005, 17, 6146]), (8, []), (11, []), (12, []), (13, [6163, 6165, 23008, 17, 6166]), (16, []), (17, []), (18, []), (21, [5168, 5170, 23001, 17, 5171]), (24, []), (25, []), (26, [5192]), (29, []), (30, []), (31, []), (32, []), (35, []), (36, [5184]), (39, []), (42, []), (43, [6167, 6169, 23009, 17, 6170]), (46, []), (47, []), (50, []), (51, [5190]), (54, []), (57, []), (58, []), (59, []), (60, []), (63, []), (66, []), (67, [5172]), (70, []), (71, []), (72, [5172]), (75, []), (78, []), (79, []), (80, []), (81, []), (82, []), (85, []), (88, []), (89, []), (90, []), (91, []), (93, []), (96, []), (97, [5173]), (100, []), (101, []), (102, [5173]), (105, []), (107, []), (108, []), (109, []), (110, []), (111, []), (114, []), (117, []), (118, []), (119, [5172]), (122, []), (123, []), (124, [7031, 7033, 25000, 17, 7034]), (127, [])]
def bc_p248 : List (Nat × List Nat) := [(0, []), (1, []), (3, []), (4, [5172]), (7, []), (8, []), (9, []), (10, [6225, 6227, 24006, 17, 6228]), (13, [])]
def bc_p249 : List (Nat × List Nat) := [(0, []), (1, []), (2, []), (3, [5172]), (6, []), (7, []), (8, []), (9, [6225, 6227, 24006, 17, 6228]), (12, [])]
def bc_p250 : List (Nat × List Nat) := [(0, []), (1, []), (3, [6172, 6174, 23010, 17, 6175]), (6, []), (7, []), (8, []), (10, []), (13, []), (14, []), (16, []), (19, []), (20, []), (22, []), (25, []), (26, []), (27, [6178, 6180, 23011, 17, 6181]), (30, []), (31, []), (32, [5172]), (35, []), (36, []), (39, []), (40, []), (41, []), (42, []), (43, [6147, 6149, 23006, 17, 6150]), (46, []), (47, []), (49, []), (52, []), (53, []), (54, []), (55, []), (56, []), (57, []), (58, [7051, 7053, 25004, 17, 7054]), (61, []), (64, []), (65, []), (66, []), (67, []), (69, []), (72, []), (73, []), (74, []), (75, []), (77, []), (80, []), (81, []), (82, []), (83, []), (84, [7055, 7057, 25005, 17, 7058]), (87, []), (88, []), (89, []), (91, [7027, 7029, 24015, 17, 7030]), (94, []), (97, []), (98, []), (100, [7027, 7029, 24015, 17, 7030]), (103, []), (106, []), (107, []), (109, [7027, 7029, 24015, 17, 7030]), (112, []), (115, []), (116, []), (117, [6178, 6180, 23011, 17, 6181]), (120, []), (121, []), (122, [5172]), (125, []), (126, []), (127, []), (128, []), (129, [5187]), (132, []), (133, []), (134, [6147, 6149, 23006, 17, 6150]), (137, []), (138, []), (139, []), (140, []), (141, []), (142, []), (144, [6182, 6184, 23012, 17, 6185]), (147, [])]
def bc_p251 : List (Nat × List Nat) := [(0, []), (1, []), (44, []), (45, []), (46, []), (47, []), (48, []), (49, []), (51, [6182, 6184, 23012, 17, 6185]), (54, []), (55, []), (56, []), (57, []), (58, []), (59, [7051, 7053, 25004, 17, 7054]), (62, []), (65, []), (66, []), (67, []), (68, []), (69, [7055, 7057, 25005, 17, 7058]), (72, []), (75, []), (76, []), (79, []), (80, []), (81, []), (82, []), (83, []), (84, []), (85, [7051, 7053, 25004, 17, 7054]), (88, []), (89, []), (90, []), (91, []), (92, []), (93, []), (94, []), (96, [6182, 6184, 23012, 17, 6185]), (99, []), (100, []), (101, []), (102, []), (103, []), (104, []), (105, []), (107, [6182, 6184, 23012, 17, 6185]), (110, []), (111, []), (112, []), (113, [7059, 7061, 25006, 17, 7062]), (116, []), (117, []), (118, [])]
def bc_p252 : List (Nat × List Nat) := [(0, []), (1, []), (3, [6172, 6174, 23010, 17, 6175]), (6, []), (7, []), (8, [5172]), (11, []), (14, []), (15, []), (16, []), (19, []), (21, []), (22, []), (23, []), (24, []), (25, []), (26, []), (28, []), (31, []), (32, []), (34, []), (37, []), (38, []), (41, []), (42, []), (44, []), (45, []), (47, []), (50, []), (51, []), (53, []), (56, []), (57, []), (59, []), (62, []), (63, [5194]), (66, []), (69, []), (70, []), (71, [6178, 6180, 23011, 17, 6181]), (74, []), (75, []), (76, []), (78, []), (81, []), (82, [5195]), (85, []), (87, []), (90, []), (91, []), (93, [6178, 6180, 23011, 17, 6181]), (96, []), (97, []), (99, []), (102, []), (103, [5194]), (106, []), (107, []), (110, []), (111, []), (113, [6178, 6180, 23011, 17, 6181]), (116, []), (117, []), (118, []), (119, [5195]), (122, []), (123, []), (125, []), (128, []), (129, []), (132, []), (133, []), (134, [5195]), (137, []), (138, [5172]), (141, []), (142, []), (143, []), (144, []), (145, []), (147, []), (149, []), (151, []), (154, []), (155, [5172]), (158, []), (159, []), (161, []), (162, []), (163, []), (164, []), (167, []), (170, []), (171, [5172]), (174, []), (177, []), (178, []), (179, []), (180, []), (181, []), (182, []), (183, [6147, 6149, 23006, 17, 6150]), (186, []), (187, []), (188, []), (189, [7047, 7049, 25003, 17, 7050]), (192, []), (195, []), (196, []), (197, []), (199, []), (202, []), (203, [5193]), (206, []), (207, [5194]), (210, []), (211, []), (212, []), (213, []), (214, [5194]), (217, []), (218, []), (219, [5194]), (222, []), (223, []), (225, []), (228, []), (229, []), (230, [5194]), (233, []), (234, []), (235, [5194]), (238, []), (239, [5172]), (242, []), (243, []), (244, []), (245, []), (246, [5193]), (249, []), (250, [5194]), (253, []), (254, []), (255, []), (256, [5172]), (259, []), (262, []), (264, []), (265, [5193]), (268, []), (269, [5194]), (272, []), (273, []), (274, []), (275, []), (276, []), (277, []), (278, []), (279, []), (280, []), (282, [7023, 7025, 24014, 17, 7026]), (285, [])]
def bc_p253 : List (Nat × List Nat) := [(0, []), (1, []), (2, []), (5, [6143, 6145, 23005, 17, 6146]), (8, []), (11, []), (12, []), (13, [6163, 6165, 23008, 17, 6166]), (16, []), (17, []), (18, [5172]), (21, []), (24, []), (25, []), (26, []), (27, []), (28, [5194]), (31, []), (32, []), (33, [5195]), (36, []), (37, []), (38, []), (39, []), (42, []), (43, [5184]), (46, []), (49, []), (50, [7043, 7045, 25002, 17, 7046]), (53, []), (54, []), (57, []), (58, [5190]), (61, []), (64, []), (65, [5194]), (68, []), (71, []), (72, []), (73, [6178, 6180, 23011, 17, 6181]), (76, []), (77, []), (78, [5190]), (81, []), (84, []), (85, [5172]), (88, []), (90, []), (91, [5172]), (94, []), (97, []), (98, []), (99, []), (102, []), (103, []), (104, []), (107, []), (110, []), (111, [5172]), (114, []), (115, []), (116, [5172]), (119, []), (122, []), (123, []), (124, []), (125, []), (126, []), (129, []), (132, []), (133, []), (134, [5195]), (137, [7031, 7033, 25000, 17, 7034]), (140, [])]
def bc_p254 : List (Nat × List Nat) := [(0, []), (1, []), (4, []), (5, []), (6, [5172]), (9, []), (10, []), (11, []), (14, []), (15, []), (18, []), (19, [])]
def bc_p255 : List (Nat × List Nat) := [(0, []), (1, []), (4, []), (5, []), (6, [5172]), (9, []), (10, []), (11, []), (14, []), (15, []), (18, []), (19, [])]
def bc_p256 : List (Nat × List Nat) := [(0, []), (1, []), (4, []), (5, []), (6, [5172]), (9, []), (10, []), (11, []), (14, []), (15, []), (18, []), (19, [])]
def bc_p257 : List (Nat × List Nat) := [(0, []), (1, []), (4, []), (5, []), (6, [5172]), (9, []), (10, []), (11, []), (14, []), (15, []), (18, []), (19, [])]
def bc_p258 : List (Nat × List Nat) := [(0, []), (1, []), (2, []), (3, []), (4, []), (5, []), (6, []), (9, []), (10, []), (13, []), (14, [])]
def bc_p259 : List (Nat × List Nat) := [(0, []), (1, []), (2, []), (3, []), (4, []), (5, []), (8, []), (11, []), (12, []), (13, []), (14, []), (15, []), (16, []), (17, []), (20, []), (21, [])]
def bc_p260 : List (Nat × List Nat) := [(0, []), (1, [5172]), (4, []), (5, [6214, 6215, 17, 6216]), (8, []), (9, []), (10, []), (11, [])]
def bc_p261 : List (Nat × List Nat) := [(0, []), (1, [5172]), (4, []), (5, [7005, 7006, 17, 7007]), (8, []), (9, []), (10, []), (11, [])]
def bc_p262 : List (Nat × List Nat) := [(0, []), (1, [5172]), (4, []), (5, [7012, 7013, 17, 7014]), (8, []), (9, []), (10, []), (11, [])]
def bc_p263 : List (Nat × List Nat) := [(0, []), (1, [5172]), (4, []), (7, []), (8, []), (9, []), (10, []), (11, []), (12, []), (13, []), (14, [])]
def bc_p264 : List (Nat × List Nat) := [(0, []), (1, []), (2, []), (3, []), (4, []), (5, []), (6, [5172]), (9, []), (10, []), (11, []), (14, []), (15, []), (16, []), (19, []), (20, []), (21, []), (22, []), (23, []), (24, [7091, 7093, 25013, 17, 7094]), (27, []), (28, []), (29, []), (30, []), (31, []), (32, [7091, 7093, 25013, 17, 7094]), (35, []), (38, []), (39, []), (40, []), (43, []), (46, []), (47, [])]
def bc_p265 : List (Nat × List Nat) := [(0, []), (1, []), (2, [7087, 7089, 25012, 17, 7090]), (5, []), (6, []), (7, []), (8, []), (11, []), (12, []), (15, []), (16, []), (17, []), (18, []), (19, []), (20, [7091, 7093, 25013, 17, 7094]), (23, [])]
def bc_p266 : List (Nat × List Nat) := [(0, []), (1, []), (2, [7083, 7085, 25011, 17, 7086]), (5, []), (6, []), (7, []), (8, [7091, 7093, 25013, 17, 7094]), (11, []), (14, []), (15, []), (18, []), (19, [])]
def bc_p267 : List (Nat × List Nat) := [(0, []), (1, []), (2, [7079, 7081, 25010, 17, 7082]), (5, []), (8, []), (9, []), (10, [7087, 7089, 25012, 17, 7090]), (13, []), (16, []), (17, [])]
def bc_p268 : List (Nat × List Nat) := [(0, []), (1, []), (2, []), (3, []), (4, []), (5, []), (6, [5172]), (9, []), (10, []), (11, []), (14, []), (15, []), (16, []), (17, []), (18, [7071, 7073, 25008, 17, 7074]), (21, []), (22, []), (25, []), (26, []), (27, []), (28, []), (31, []), (32, []), (33, []), (34, []), (37, []), (40, []), (41, [])]
def bc_p269 : List (Nat × List Nat) := [(0, []), (1, []), (2, []), (3, []), (4, []), (5, []), (6, [5172]), (9, []), (10, []), (11, []), (14, []), (15, []), (18, []), (19, []), (20, [7079, 7081, 25010, 17, 7082]), (23, []), (26, []), (27, []), (28, []), (29, [7091, 7093, 25013, 17, 7094]), (32, []), (35, []), (36, []), (39, []), (40, []), (42, []), (43, []), (45, []), (48, []), (49, []), (50, []), (51, []), (54, []), (55, []), (56, []), (57, []), (60, []), (63, []), (64, [])]
def bc_p270 : List (Nat × List Nat) := [(0, []), (1, []), (4, []), (5, []), (7, []), (10, []), (11, []), (12, [6163, 6165, 23008, 17, 6166]), (15, []), (16, []), (17, []), (19, []), (22, []), (23, []), (24, [5172]), (27, []), (28, []), (29, [7035, 7037, 25001, 17, 7038]), (32, []), (33, []), (34, []), (35, []), (37, []), (40, []), (41, [7067, 7069, 25007, 17, 7070]), (44, []), (47, []), (48, []), (49, []), (51, []), (52, [7075, 7077, 25009, 17, 7078]), (55, [7035, 7037, 25001, 17, 7038]), (58, [])]
def bc_p271 : List (Nat × List Nat) := [(0, []), (1, []), (2, [7099, 7101, 25014, 17, 7102]), (5, []), (8, []), (9, []), (12, []), (13, []), (14, []), (17, []), (18, []), (19, [6163, 6165, 23008, 17, 6166]), (22, []), (23, []), (24, []), (25, []), (26, [7071, 7073, 25008, 17, 7074]), (29, []), (30, []), (33, []), (34, []), (36, [6163, 6165, 23008, 17, 6166]), (39, []), (42, []), (43, []), (44, []), (45, []), (46, [7071, 7073, 25008, 17, 7074]), (49, [7035, 7037, 25001, 17, 7038]), (52, [])]
def bc_p272 : List (Nat × List Nat) := [(0, []), (1, []), (2, [7107, 7109, 25015, 17, 7110]), (5, []), (8, []), (9, []), (12, []), (13, []), (14, []), (17, []), (18, []), (19, [6163, 6165, 23008, 17, 6166]), (22, []), (23, []), (24, []), (25, []), (26, []), (29, []), (30, []), (31, [7083, 7085, 25011, 17, 7086]), (34, []), (37, []), (38, []), (39, []), (40, [7091, 7093, 25013, 17, 7094]), (43, [7035, 7037, 25001, 17, 7038]), (46, [])]
def bc_p273 : List (Nat × List Nat) := [(0, []), (1, []), (2, [7107, 7109, 25015, 17, 7110]), (5, []), (8, []), (9, []), (10, [7115, 7117, 26000, 17, 7118]), (13, []), (16, []), (17, []), (18, []), (19, []), (20, []), (21, []), (22, [7091, 7093, 25013, 17, 7094]), (25, [7035, 7037, 25001, 17, 7038]), (28, []), (31, []), (32, []), (33, [6163, 6165, 23008, 17, 6166]), (36, [])]
def bc_p274 : List (Nat × List Nat) := [(0, []), (1, []), (2, [7107, 7109, 25015, 17, 7110]), (5, []), (8, []), (9, []), (10, []), (11, [7123, 7125, 26001, 17, 7126]), (14, [7127, 7129, 26002, 17, 7130]), (17, []), (20, []), (21, []), (22, [6163, 6165, 23008, 17, 6166]), (25, [])]
def bc_p275 : List (Nat × List Nat) := [(0, []), (1, []), (2, [7135, 7137, 26003, 17, 7138]), (5, []), (8, []), (9, []), (12, []), (13, []), (14, []), (17, []), (18, []), (19, [6163, 6165, 23008, 17, 6166]), (22, []), (23, []), (24, []), (25, []), (26, []), (27, [7139, 7141, 26004, 17, 7142]), (30, [7035, 7037, 25001, 17, 7038]), (33, [])]
def bc_p276 : List (Nat × List Nat) := [(0, []), (1, []), (2, [7115, 7117, 26000, 17, 7118]), (5, []), (8, []), (9, []), (10, [7115, 7117, 26000, 17, 7118]), (13, []), (16, []), (17, []), (18, []), (19, []), (20, [7147, 7149, 26005, 17, 7150]), (23, [7035, 7037, 25001, 17, 7038]), (26, []), (29, []), (30, []), (31, [6163, 6165, 23008, 17, 6166]), (34, [])]
def bc_p277 : List (Nat × List Nat) := [(0, []), (1, []), (2, []), (5, []), (6, []), (9, []), (10, []), (11, []), (12, [7071, 7073, 25008, 17, 7074]), (15, []), (16, []), (17, []), (19, []), (21, []), (22, [5172]), (25, []), (26, []), (27, []), (30, []), (31, [7005, 7006, 17, 7007]), (34, []), (35, []), (36, []), (38, []), (39, []), (41, []), (42, [5172]), (45, []), (47, []), (49, []), (50, []), (53, []), (55, []), (56, [5172]), (59, []), (61, []), (62, []), (63, []), (64, []), (65, [7071, 7073, 25008, 17, 7074]), (68, []), (69, [6162, 2221, 20, 2222]), (72, []), (75, []), (76, []), (77, [5172]), (80, []), (82, []), (83, []), (84, []), (85, [7171, 3179, 20, 3180]), (88, []), (89, []), (92, []), (95, [])]
def bc_p278 : List (Nat × List Nat) := [(0, []), (1, []), (2, [7075, 7077, 25009, 17, 7078]), (5, []), (6, []), (7, []), (8, []), (9, []), (10, [5172]), (13, []), (14, []), (15, []), (18, []), (19, []), (20, []), (21, [7091, 7093, 25013, 17, 7094]), (24, []), (27, []), (28, []), (31, []), (32, []), (33, []), (34, []), (37, []), (38, [5172]), (41, []), (42, [7005, 7006, 17, 7007]), (45, []), (46, []), (47, []), (48, []), (49, []), (50, []), (51, []), (52, []), (53, []), (54, []), (55, []), (58, []), (59, [5172]), (62, []), (63, []), (64, []), (67, []), (68, []), (71, []), (72, []), (73, []), (74, [7091, 7093, 25013, 17, 7094]), (77, [7167, 7169, 26008, 17, 7170]), (80, []), (83, []), (86, []), (87, [5172]), (90, []), (91, []), (92, []), (93, [5172]), (96, []), (97, []), (98, []), (99, []), (100, [7171, 3179, 20, 3180]), (103, []), (104, []), (105, [5172]), (108, []), (110, []), (111, []), (112, []), (113, []), (114, []), (115, []), (116, []), (117, [7075, 7077, 25009, 17, 7078]), (120, []), (121, []), (122, []), (123, []), (124, [7172, 7173, 17, 7174]), (127, [])]
def bc_p279 : List (Nat × List Nat) := [(0, []), (1, []), (2, []), (3, []), (4, []), (5, []), (6, []), (9, []), (10, []), (11, [7163, 7165, 26007, 17, 7166]), (14, []), (15, []), (16, []), (19, []), (22, []), (23, [])]
def bc_p280 : List (Nat × List Nat) := [(0, []), (1, []), (2, []), (3, [7155]), (6, [7156, 7157, 17, 7158]), (9, []), (12, []), (13, []), (14, [6163, 6165, 23008, 17, 6166]), (17, []), (18, []), (19, [5172]), (22, []), (24, []), (25, []), (26, []), (27, []), (30, []), (33, []), (34, []), (35, [6163, 6165, 23008, 17, 6166]), (38, []), (39, []), (40, []), (41, [7159, 7161, 26006, 17, 7162]), (44, []), (45, []), (46, []), (47, []), (48, [7075, 7077, 25009, 17, 7078]), (51, [7172, 7173, 17, 7174]), (54, [7035, 7037, 25001, 17, 7038]), (57, [])]
def bc_p281 : List (Nat × List Nat) := [(0, [7187]), (3, []), (4, []), (5, []), (7, []), (9, []), (10, [5172]), (13, []), (15, []), (16, []), (19, []), (21, []), (22, []), (24, []), (25, []), (26, []), (28, []), (29, [5172]), (32, []), (34, []), (35, []), (36, []), (39, []), (40, [5172]), (43, []), (45, []), (46, []), (47, []), (48, []), (49, []), (52, []), (53, [5172]), (56, []), (58, []), (59, []), (60, []), (63, []), (64, [5172]), (67, []), (69, []), (70, []), (71, []), (72, []), (73, []), (76, []), (77, []), (80, []), (81, []), (83, []), (85, []), (88, []), (89, []), (90, [5172]), (93, []), (95, []), (96, []), (97, []), (98, [6162, 2221, 20, 2222]), (101, []), (102, []), (105, []), (108, []), (109, [])]
def bc_p282 : List (Nat × List Nat) := [(0, []), (1, [7005, 7006, 17, 7007]), (4, []), (5, []), (6, []), (7, [5172]), (10, []), (11, []), (12, []), (13, []), (14, []), (15, [7183, 7185, 26010, 17, 7186]), (18, []), (20, []), (21, []), (22, [7079, 7081, 25010, 17, 7082]), (25, []), (28, []), (29, [5172]), (32, []), (33, []), (34, []), (35, []), (36, []), (39, []), (40, [5172]), (43, []), (44, []), (45, []), (46, []), (47, []), (48, []), (51, []), (53, [7187]), (56, []), (59, []), (60, []), (61, []), (62, [5172]), (65, []), (66, []), (67, []), (68, []), (69, []), (70, []), (71, [5172]), (74, []), (75, []), (76, []), (77, []), (79, []), (80, []), (81, [])]
def bc_p283 : List (Nat × List Nat) := [(0, []), (1, []), (2, [7107, 7109, 25015, 17, 7110]), (5, []), (8, []), (9, []), (10, [7099, 7101, 25014, 17, 7102]), (13, []), (16, []), (17, []), (18, [6163, 6165, 23008, 17, 6166]), (21, []), (22, []), (23, []), (24, []), (25, [7179, 7181, 26009, 17, 7182]), (28, []), (31, []), (32, []), (33, []), (34, []), (35, [7091, 7093, 25013, 17, 7094]), (38, [7035, 7037, 25001, 17, 7038]), (41, []), (44, []), (45, []), (47, [6163, 6165, 23008, 17, 6166]), (50, [])]
def bc_p284 : List (Nat × List Nat) := [(0, []), (1, []), (2, [7083, 7085, 25011, 17, 7086]), (5, []), (8, []), (9, []), (10, []), (11, []), (12, []), (13, []), (14, []), (17, []), (18, [5172]), (21, []), (22, [7005, 7006, 17, 7007]), (25, []), (26, []), (27, []), (28, []), (29, []), (30, []), (31, []), (32, []), (33, []), (34, []), (37, []), (40, []), (41, [])]
def bc_p285 : List (Nat × List Nat) := [(0, []), (1, []), (2, [7107, 7109, 25015, 17, 7110]), (5, []), (8, []), (9, []), (10, [6163, 6165, 23008, 17, 6166]), (13, []), (14, []), (15, []), (16, [7192, 7194, 26011, 17, 7195]), (19, []), (22, []), (23, []), (24, []), (25, [7083, 7085, 25011, 17, 7086]), (28, [7035, 7037, 25001, 17, 7038]), (31, []), (34, []), (35, []), (37, [6163, 6165, 23008, 17, 6166]), (40, [])]
def bc_p286 : List (Nat × List Nat) := [(0, []), (1, [5172]), (4, []), (5, []), (6, []), (7, []), (8, []), (11, []), (14, []), (15, []), (16, []), (17, [5172]), (20, []), (21, []), (22, []), (23, []), (24, []), (25, []), (26, []), (27, [])]
def bc_p287 : List (Nat × List Nat) := [(0, []), (1, []), (2, []), (3, [7200]), (6, [7156, 7157, 17, 7158]), (9, []), (12, []), (13, []), (14, [6163, 6165, 23008, 17, 6166]), (17, []), (18, []), (19, []), (20, [7201, 7203, 26012, 17, 7204]), (23, []), (26, []), (27, []), (28, [5172]), (31, []), (32, []), (33, [7035, 7037, 25001, 17, 7038]), (36, []), (39, []), (40, []), (41, [6163, 6165, 23008, 17, 6166]), (44, [])]
def bc_p288 : List (Nat × List Nat) := [(0, []), (1, []), (2, [7099, 7101, 25014, 17, 7102]), (5, []), (8, []), (9, []), (10, [7115, 7117, 26000, 17, 7118]), (13, []), (16, []), (17, []), (18, []), (19, [7209]), (22, [7156, 7157, 17, 7158]), (25, []), (28, []), (29, []), (30, [6103, 6105, 23002, 17, 6106]), (33, []), (34, []), (35, [5172]), (38, []), (39, [6214, 6215, 17, 6216]), (42, []), (43, []), (44, []), (45, [5172]), (48, []), (49, [6214, 6215, 17, 6216]), (52, []), (53, []), (54, []), (55, []), (56, []), (57, []), (58, [6103, 6105, 23002, 17, 6106]), (61, [])]
def bc_p289 : List (Nat × List Nat) := [(0, []), (1, []), (2, [7099, 7101, 25014, 17, 7102]), (5, []), (8, []), (9, []), (10, [6163, 6165, 23008, 17, 6166]), (13, []), (14, []), (15, []), (16, []), (17, [7071, 7073, 25008, 17, 7074]), (20, []), (21, []), (22, []), (23, []), (26, []), (27, []), (29, [6163, 6165, 23008, 17, 6166]), (32, []), (33, []), (34, [5172]), (37, []), (38, [6214, 6215, 17, 6216]), (41, []), (42, []), (43, []), (44, []), (45, [7035, 7037, 25001, 17, 7038]), (48, [])]
def bc_p290 : List (Nat × List Nat) := [(0, []), (1, []), (2, []), (3, [7218]), (6, [7156, 7157, 17, 7158]), (9, []), (12, []), (13, []), (14, [7099, 7101, 25014, 17, 7102]), (17, []), (20, []), (21, []), (22, [6163, 6165, 23008, 17, 6166]), (25, []), (26, []), (27, [5172]), (30, []), (31, []), (32, []), (33, []), (34, []), (36, []), (39, []), (40, []), (41, [6163, 6165, 23008, 17, 6166]), (44, []), (45, []), (46, [5172]), (49, []), (50, []), (51, []), (52, []), (53, []), (54, []), (55, []), (56, []), (58, []), (60, []), (62, []), (65, []), (66, [5172]), (69, []), (70, [7005, 7006, 17, 7007]), (73, []), (75, []), (76, []), (77, []), (78, []), (81, []), (84, []), (85, [5172]), (88, []), (89, [7005, 7006, 17, 7007]), (92, []), (93, []), (94, []), (95, [5172]), (98, []), (99, [7005, 7006, 17, 7007]), (102, []), (103, []), (104, []), (105, []), (106, []), (107, [5173]), (110, []), (112, []), (113, []), (114, []), (115, []), (116, []), (117, []), (118, [7035, 7037, 25001, 17, 7038]), (121, [])]
def bc_p291 : List (Nat × List Nat) := [(0, []), (1, []), (2, [7115, 7117, 26000, 17, 7118]), (5, []), (8, []), (9, []), (10, []), (11, [7209]), (14, [7156, 7157, 17, 7158]), (17, []), (20, []), (21, []), (22, []), (23, [7209]), (26, [7156, 7157, 17, 7158]), (29, []), (32, []), (33, []), (34, [6163, 6165, 23008, 17, 6166]), (37, []), (38, []), (39, [5172]), (42, []), (43, []), (44, []), (46, []), (48, []), (50, []), (53, []), (54, []), (55, [6163, 6165, 23008, 17, 6166]), (58, []), (59, []), (60, [5172]), (63, []), (64, []), (65, []), (66, []), (67, []), (68, []), (69, []), (70, [5172]), (73, []), (75, [7012, 7013, 17, 7014]), (78, []), (79, []), (80, []), (81, [5172]), (84, []), (86, [7012, 7013, 17, 7014]), (89, []), (90, []), (91, []), (92, []), (93, []), (94, [5172]), (97, []), (99, [7012, 7013, 17, 7014]), (102, []), (103, []), (104, []), (105, []), (106, []), (107, []), (108, []), (109, [5172]), (112, []), (114, [7012, 7013, 17, 7014]), (117, []), (118, []), (119, []), (120, []), (121, []), (122, [5173]), (125, []), (127, []), (129, []), (130, []), (131, []), (132, []), (133, []), (135, [7035, 7037, 25001, 17, 7038]), (138, [])]
def bc_p292 : List (Nat × List Nat) := [(0, []), (1, []), (2, [7135, 7137, 26003, 17, 7138]), (5, []), (8, []), (9, []), (10, [7135, 7137, 26003, 17, 7138]), (13, []), (16, []), (17, []), (18, []), (21, []), (22, []), (23, [6103, 6105, 23002, 17, 6106]), (26, []), (27, []), (28, []), (29, []), (30, []), (31, [7139, 7141, 26004, 17, 7142]), (34, []), (35, [7227, 7229, 26013, 17, 7230]), (38, []), (41, []), (42, []), (44, [6103, 6105, 23002, 17, 6106]), (47, []), (48, []), (49, [5172]), (52, []), (53, [7012, 7013, 17, 7014]), (56, []), (57, []), (58, []), (59, []), (60, []), (61, []), (62, []), (63, []), (64, []), (65, []), (66, []), (67, [6103, 6105, 23002, 17, 6106]), (70, [])]
def bc_p293 : List (Nat × List Nat) := [(0, []), (1, []), (2, []), (3, [7235]), (6, [7156, 7157, 17, 7158]), (9, []), (12, []), (13, []), (14, [6103, 6105, 23002, 17, 6106]), (17, []), (18, []), (19, [5172]), (22, []), (23, []), (24, []), (25, []), (26, []), (27, [6103, 6105, 23002, 17, 6106]), (30, [])]
def bc_p294 : List (Nat × List Nat) := [(0, []), (3, []), (6, []), (7, []), (8, []), (9, [])]
def bc_p295 : List (Nat × List Nat) := [(0, []), (1, []), (2, []), (3, []), (6, []), (9, []), (10, [5172]), (13, []), (14, []), (15, []), (16, []), (17, [5172]), (20, []), (21, []), (22, []), (23, []), (26, []), (29, [])]
def bc_p296 : List (Nat × List Nat) := [(0, []), (1, []), (2, []), (3, []), (6, []), (9, []), (10, [5172]), (13, []), (14, []), (15, [5172]), (18, []), (19, []), (20, []), (21, []), (22, []), (23, []), (26, []), (29, [])]
def bc_p297 : List (Nat × List Nat) := [(0, []), (1, []), (2, []), (3, [8003]), (6, [7156, 7157, 17, 7158]), (9, [])]
def bc_p298 : List (Nat × List Nat) := [(0, []), (1, []), (2, [7107, 7109, 25015, 17, 7110]), (5, []), (8, []), (9, []), (10, [7115, 7117, 26000, 17, 7118]), (13, []), (16, []), (17, [8000, 8001, 17, 8002]), (20, []), (23, []), (24, []), (25, [6163, 6165, 23008, 17, 6166]), (28, []), (29, []), (30, []), (33, [8004, 8006, 26014, 17, 8007]), (36, []), (37, []), (38, [7159, 7161, 26006, 17, 7162]), (41, []), (42, []), (43, []), (44, []), (45, []), (46, []), (47, [7091, 7093, 25013, 17, 7094]), (50, []), (52, []), (53, []), (56, [8008, 8010, 26015, 17, 8011]), (59, []), (60, []), (62, [7035, 7037, 25001, 17, 7038]), (65, [])]
def bc_p299 : List (Nat × List Nat) := [(0, []), (1, []), (2, [7107, 7109, 25015, 17, 7110]), (5, []), (8, []), (9, [8000, 8001, 17, 8002]), (12, []), (15, []), (16, []), (17, [6163, 6165, 23008, 17, 6166]), (20, []), (21, []), (22, []), (25, [8004, 8006, 26014, 17, 8007]), (28, []), (29, []), (30, [7159, 7161, 26006, 17, 7162]), (33, []), (34, []), (35, []), (36, [7123, 7125, 26001, 17, 7126]), (39, []), (40, []), (41, []), (44, [8008, 8010, 26015, 17, 8011]), (47, []), (48, []), (49, [7127, 7129, 26002, 17, 7130]), (52, [])]
def bc_p300 : List (Nat × List Nat) := [(0, []), (1, []), (2, [7107, 7109, 25015, 17, 7110]), (5, []), (8, []), (9, []), (10, [6163, 6165, 23008, 17, 6166]), (13, []), (14, []), (15, []), (18, [8004, 8006, 26014, 17, 8007]), (21, []), (22, []), (23, []), (24, []), (27, []), (30, []), (31, []), (32, [7079, 7081, 25010, 17, 7082]), (35, []), (38, []), (39, [7163, 7165, 26007, 17, 7166]), (42, []), (43, []), (46, []), (49, []), (50, []), (51, [7079, 7081, 25010, 17, 7082]), (54, []), (55, []), (56, []), (59, [8008, 8010, 26015, 17, 8011]), (62, []), (63, []), (66, []), (67, []), (68, [7035, 7037, 25001, 17, 7038]), (71, []), (74, []), (75, []), (77, [6163, 6165, 23008, 17, 6166]), (80, [])]
def bc_p301 : List (Nat × List Nat) := [(0, []), (1, []), (4, [8004, 8006, 26014, 17, 8007]), (7, []), (8, []), (9, []), (10, []), (13, []), (16, []), (17, []), (18, [7075, 7077, 25009, 17, 7078]), (21, []), (24, []), (25, [7163, 7165, 26007, 17, 7166]), (28, []), (29, []), (32, []), (35, []), (36, []), (37, [7075, 7077, 25009, 17, 7078]), (40, []), (43, []), (44, []), (47, []), (48, []), (49, []), (50, []), (53, [8008, 8010, 26015, 17, 8011]), (56, []), (57, []), (60, []), (61, []), (62, [7035, 7037, 25001, 17, 7038]), (65, []), (68, []), (69, []), (71, [6163, 6165, 23008, 17, 6166]), (74, [])]
def bc_p302 : List (Nat × List Nat) := [(0, []), (1, []), (2, [7107, 7109, 25015, 17, 7110]), (5, []), (8, []), (9, []), (10, [7099, 7101, 25014, 17, 7102]), (13, []), (16, []), (17, []), (18, [6163, 6165, 23008, 17, 6166]), (21, []), (22, []), (23, []), (24, []), (25, [7071, 7073, 25008, 17, 7074]), (28, []), (29, []), (32, []), (33, []), (35, [6163, 6165, 23008, 17, 6166]), (38, []), (39, []), (40, []), (41, [7079, 7081, 25010, 17, 7082]), (44, []), (47, []), (48, []), (49, [7035, 7037, 25001, 17, 7038]), (52, []), (53, []), (54, []), (55, []), (56, []), (57, [7091, 7093, 25013, 17, 7094]), (60, []), (61, []), (62, []), (63, []), (64, []), (65, []), (66, [7071, 7073, 25008, 17, 7074]), (69, []), (70, [7091, 7093, 25013, 17, 7094]), (73, []), (74, []), (75, []), (76, []), (77, [7071, 7073, 25008, 17, 7074]), (80, []), (81, [7035, 7037, 25001, 17, 7038]), (84, [])]
def bc_p303 : List (Nat × List Nat) := [(0, []), (1, [5172]), (4, []), (5, []), (6, []), (7, []), (8, []), (9, []), (10, []), (11, []), (14, []), (15, []), (16, []), (17, []), (18, []), (21, []), (22, [5196]), (25, []), (27, []), (28, []), (29, []), (30, []), (31, []), (32, []), (33, []), (36, []), (37, []), (40, []), (41, []), (42, []), (43, [7183, 7185, 26010, 17, 7186]), (46, []), (47, []), (50, []), (53, []), (56, []), (59, []), (60, []), (61, []), (62, []), (63, []), (66, []), (67, []), (68, []), (69, []), (70, []), (73, []), (74, []), (76, []), (78, []), (79, []), (82, []), (83, [5196]), (86, []), (88, []), (89, []), (90, []), (92, []), (93, []), (94, [5196]), (97, []), (99, []), (100, []), (101, []), (103, []), (104, []), (105, []), (106, [5196]), (109, []), (111, []), (112, []), (113, []), (114, []), (115, []), (116, []), (117, [5196]), (120, []), (122, []), (123, []), (124, []), (126, []), (127, []), (128, []), (129, [6162, 2221, 20, 2222]), (132, []), (133, []), (136, []), (139, []), (142, []), (145, []), (148, []), (151, [])]
def bc_p304 : List (Nat × List Nat) := [(0, []), (1, []), (2, [7099, 7101, 25014, 17, 7102]), (5, []), (8, []), (9, []), (10, [7099, 7101, 25014, 17, 7102]), (13, []), (16, []), (17, []), (18, [6163, 6165, 23008, 17, 6166]), (21, []), (22, []), (23, [8032, 8034, 27000, 17, 8035]), (26, []), (27, [5196]), (30, []), (32, []), (33, []), (34, []), (35, []), (36, []), (37, []), (38, []), (39, [7187]), (42, []), (45, []), (46, []), (48, [6163, 6165, 23008, 17, 6166]), (51, []), (54, []), (55, []), (56, [7035, 7037, 25001, 17, 7038]), (59, [])]
def bc_p305 : List (Nat × List Nat) := [(0, []), (1, []), (2, [7099, 7101, 25014, 17, 7102]), (5, []), (8, []), (9, []), (10, [6163, 6165, 23008, 17, 6166]), (13, []), (14, []), (15, []), (16, []), (17, []), (18, []), (19, []), (20, [5172]), (23, []), (24, []), (25, []), (28, []), (29, []), (30, []), (33, []), (34, []), (35, []), (36, [7183, 7185, 26010, 17, 7186]), (39, [7187]), (42, []), (45, []), (46, []), (47, []), (48, []), (49, []), (50, []), (51, []), (54, []), (57, []), (58, []), (59, [7035, 7037, 25001, 17, 7038]), (62, [])]
def bc_p306 : List (Nat × List Nat) := [(0, []), (1, [5196]), (4, []), (6, []), (7, []), (8, []), (9, [7091, 7093, 25013, 17, 7094]), (12, []), (13, []), (14, []), (15, []), (16, []), (18, []), (20, [7187]), (23, []), (26, []), (27, []), (28, []), (29, []), (31, []), (33, []), (35, []), (38, []), (39, []), (40, []), (41, [7167, 7169, 26008, 17, 7170]), (44, []), (47, []), (50, []), (51, [5172]), (54, []), (55, [7005, 7006, 17, 7007]), (58, []), (59, []), (60, []), (61, []), (62, []), (63, []), (65, []), (67, []), (68, []), (71, []), (72, []), (73, []), (74, [7167, 7169, 26008, 17, 7170]), (77, []), (78, []), (79, [7079, 7081, 25010, 17, 7082]), (82, []), (85, []), (86, []), (87, []), (90, []), (93, []), (94, [])]
def bc_p307 : List (Nat × List Nat) := [(0, []), (1, []), (2, []), (3, []), (4, []), (7, []), (8, [5197]), (11, []), (12, []), (13, []), (14, [5197]), (17, []), (18, []), (19, []), (22, []), (23, []), (24, []), (27, []), (30, []), (31, [])]
def bc_p308 : List (Nat × List Nat) := [(0, []), (1, [7172, 7173, 17, 7174]), (4, []), (6, []), (7, []), (9, []), (10, [8032, 8034, 27000, 17, 8035]), (13, []), (14, []), (16, []), (19, []), (20, []), (23, []), (24, [5200]), (27, []), (28, []), (29, [8052, 8053, 17, 8054]), (32, [8004, 8006, 26014, 17, 8007]), (35, []), (36, [5197]), (39, []), (40, []), (41, []), (42, []), (43, [5198]), (46, []), (47, []), (48, []), (49, []), (51, []), (54, []), (56, []), (59, []), (60, []), (62, [8052, 8053, 17, 8054]), (65, [8008, 8010, 26015, 17, 8011]), (68, []), (69, [5197]), (72, []), (74, []), (75, []), (76, []), (77, []), (78, []), (79, []), (80, [5197]), (83, []), (85, []), (86, []), (88, []), (90, []), (91, [5172]), (94, []), (95, []), (96, []), (99, []), (102, []), (105, []), (106, []), (107, []), (109, [7227, 7229, 26013, 17, 7230]), (112, []), (115, []), (116, []), (118, [8055, 8057, 27003, 17, 8058]), (121, []), (124, []), (127, []), (128, [5198]), (131, []), (133, []), (134, []), (135, [5196]), (138, []), (140, []), (141, []), (142, []), (143, [7091, 7093, 25013, 17, 7094]), (146, []), (147, []), (149, []), (150, []), (151, []), (152, []), (153, []), (154, []), (156, []), (157, []), (158, []), (160, []), (161, [8059, 8061, 27004, 17, 8062]), (164, []), (167, []), (170, []), (172, []), (173, []), (174, []), (176, []), (179, []), (182, []), (183, []), (185, [8052, 8053, 17, 8054]), (188, [8004, 8006, 26014, 17, 8007]), (191, []), (192, [5197]), (195, []), (197, []), (198, []), (199, []), (200, [5198]), (203, []), (205, []), (207, []), (208, []), (211, []), (212, [5200]), (215, []), (216, []), (219, []), (221, []), (222, [5200]), (225, []), (228, []), (229, []), (231, [5200]), (234, []), (235, []), (237, []), (239, []), (241, []), (244, []), (245, [5199]), (248, []), (250, []), (251, [5197]), (254, []), (256, []), (257, []), (258, []), (261, []), (264, []), (267, []), (268, []), (269, [8052, 8053, 17, 8054]), (272, [8008, 8010, 26015, 17, 8011]), (275, [])]
def bc_p309 : List (Nat × List Nat) := [(0, []), (1, []), (2, [7107, 7109, 25015, 17, 7110]), (5, []), (8, []), (9, []), (10, []), (11, []), (12, []), (13, [5172]), (16, []), (17, []), (18, []), (19, []), (20, []), (21, [7156, 7157, 17, 7158]), (24, []), (27, []), (28, [7172, 7173, 17, 7174]), (31, []), (32, []), (35, []), (36, []), (37, []), (38, [7209]), (41, [7156, 7157, 17, 7158]), (44, []), (47, []), (48, []), (49, []), (50, []), (51, [7079, 7081, 25010, 17, 7082]), (54, []), (57, []), (58, []), (59, []), (60, [7091, 7093, 25013, 17, 7094]), (63, []), (66, []), (68, []), (71, []), (72, [])]
def bc_p310 : List (Nat × List Nat) := [(0, []), (1, []), (2, []), (3, []), (4, [8044, 8046, 27001, 17, 8047]), (7, []), (9, []), (11, []), (14, []), (15, []), (17, [6163, 6165, 23008, 17, 6166]), (20, []), (21, []), (22, []), (23, []), (24, []), (25, [8048, 8050, 27002, 17, 8051]), (28, []), (29, []), (30, [5200]), (33, [7127, 7129, 26002, 17, 7130]), (36, [])]
def bc_p311 : List (Nat × List Nat) := [(0, []), (2, []), (5, []), (6, []), (9, []), (10, []), (11, []), (12, []), (13, [8044, 8046, 27001, 17, 8047]), (16, []), (18, []), (20, []), (23, []), (24, []), (26, [6163, 6165, 23008, 17, 6166]), (29, []), (30, []), (31, []), (32, []), (33, []), (34, [8048, 8050, 27002, 17, 8051]), (37, []), (38, [5200]), (41, []), (42, []), (45, []), (47, []), (48, [7172, 7173, 17, 7174]), (51, []), (54, []), (55, []), (57, [6163, 6165, 23008, 17, 6166]), (60, []), (63, []), (64, []), (65, [5199]), (68, []), (70, []), (71, [7035, 7037, 25001, 17, 7038]), (74, [])]
def bc_p312 : List (Nat × List Nat) := [(0, []), (1, []), (2, []), (3, [7227, 7229, 26013, 17, 7230]), (6, []), (9, []), (10, []), (11, []), (12, [7139, 7141, 26004, 17, 7142]), (15, []), (16, []), (17, []), (18, []), (19, []), (22, []), (23, []), (26, []), (27, [])]
def bc_p313 : List (Nat × List Nat) := [(0, []), (1, []), (2, [5172]), (5, []), (6, []), (7, []), (8, []), (9, []), (10, []), (11, []), (12, []), (13, []), (14, []), (17, []), (18, [5201]), (21, []), (22, []), (23, []), (24, []), (27, []), (28, []), (31, []), (32, []), (33, []), (34, []), (35, []), (36, []), (37, [5172]), (40, []), (41, []), (42, []), (45, []), (46, []), (47, []), (48, [8075, 8077, 27006, 17, 8078]), (51, []), (54, []), (55, [5201]), (58, []), (59, []), (60, []), (61, []), (62, [5201]), (65, []), (66, []), (67, []), (68, []), (69, []), (70, []), (71, []), (72, []), (73, []), (76, []), (79, []), (82, []), (85, []), (86, [5201]), (89, []), (90, []), (91, [])]
def bc_p314 : List (Nat × List Nat) := [(0, []), (1, []), (2, [8071, 8073, 27005, 17, 8074]), (5, [7035, 7037, 25001, 17, 7038]), (8, [])]
def bc_p315 : List (Nat × List Nat) := [(0, []), (1, []), (4, []), (5, []), (6, [6163, 6165, 23008, 17, 6166]), (9, []), (10, []), (11, [8071, 8073, 27005, 17, 8074]), (14, []), (17, []), (18, []), (19, [5172]), (22, []), (23, []), (24, []), (27, []), (28, []), (30, [6163, 6165, 23008, 17, 6166]), (33, []), (34, []), (35, []), (36, []), (37, []), (38, []), (39, []), (41, []), (43, []), (44, []), (47, []), (48, []), (49, []), (50, []), (51, []), (52, [8075, 8077, 27006, 17, 8078]), (55, []), (58, []), (59, [5201]), (62, []), (63, []), (64, []), (65, []), (66, []), (67, []), (68, []), (71, []), (74, []), (77, []), (78, []), (79, []), (80, []), (81, []), (82, []), (83, []), (86, []), (89, []), (90, []), (91, [7035, 7037, 25001, 17, 7038]), (94, [])]
def bc_p316 : List (Nat × List Nat) := [(0, []), (1, []), (2, [7135, 7137, 26003, 17, 7138]), (5, []), (8, []), (9, []), (10, [6163, 6165, 23008, 17, 6166]), (13, []), (14, []), (15, [8071, 8073, 27005, 17, 8074]), (18, []), (21, []), (22, []), (24, [6163, 6165, 23008, 17, 6166]), (27, []), (28, []), (29, []), (30, []), (31, [7139, 7141, 26004, 17, 7142]), (34, []), (35, []), (36, []), (37, []), (38, []), (40, []), (43, []), (44, []), (46, []), (48, []), (49, [5172]), (52, []), (53, []), (54, []), (57, []), (58, []), (59, []), (61, [7227, 7229, 26013, 17, 7230]), (64, []), (67, []), (68, []), (69, []), (71, []), (72, [7139, 7141, 26004, 17, 7142]), (75, []), (76, []), (77, []), (80, []), (83, []), (86, []), (89, []), (90, []), (91, [7172, 7173, 17, 7174]), (94, [7035, 7037, 25001, 17, 7038]), (97, [])]
def bc_p317 : List (Nat × List Nat) := [(0, []), (1, []), (2, []), (3, [7139, 7141, 26004, 17, 7142]), (6, []), (7, []), (8, []), (9, [7139, 7141, 26004, 17, 7142]), (12, []), (13, []), (14, []), (15, []), (16, []), (17, [7139, 7141, 26004, 17, 7142]), (20, []), (21, []), (22, []), (23, [7139, 7141, 26004, 17, 7142]), (26, []), (27, []), (29, []), (30, []), (31, []), (32, [7171, 3179, 20, 3180]), (35, []), (37, []), (39, []), (40, [7171, 3179, 20, 3180]), (43, []), (44, [])]
def bc_p318 : List (Nat × List Nat) := [(0, []), (1, []), (2, []), (3, []), (4, [5172]), (7, []), (8, []), (9, []), (12, []), (13, []), (14, []), (15, []), (17, []), (19, []), (20, [5172]), (23, []), (24, []), (25, []), (28, []), (29, []), (30, []), (31, [7227, 7229, 26013, 17, 7230]), (34, []), (37, []), (38, []), (39, []), (41, [7227, 7229, 26013, 17, 7230]), (44, []), (47, []), (48, []), (49, []), (51, [8096, 8098, 27008, 17, 8099]), (54, []), (55, []), (58, []), (59, []), (60, []), (63, []), (66, []), (69, []), (72, []), (73, [])]
def bc_p319 : List (Nat × List Nat) := [(0, []), (1, []), (2, []), (3, [8091]), (6, [7156, 7157, 17, 7158]), (9, []), (12, []), (13, []), (14, [6163, 6165, 23008, 17, 6166]), (17, []), (18, []), (19, []), (20, [5172]), (23, []), (24, []), (25, []), (26, []), (27, []), (28, []), (29, []), (30, [5202]), (33, []), (34, []), (35, []), (36, []), (37, []), (38, []), (39, []), (40, []), (43, []), (44, [5202]), (47, []), (48, [7187]), (51, []), (52, []), (53, []), (55, []), (57, []), (60, []), (61, [5202]), (64, []), (65, []), (67, []), (68, []), (69, []), (70, []), (71, []), (72, []), (73, []), (74, [5202]), (77, []), (78, []), (79, []), (82, []), (83, []), (85, []), (86, [8092, 8094, 27007, 17, 8095]), (89, []), (92, []), (93, [5202]), (96, []), (97, []), (98, [5202]), (101, []), (102, []), (104, []), (105, []), (106, []), (107, []), (108, []), (109, []), (110, []), (111, []), (113, []), (114, []), (115, []), (116, []), (117, []), (119, []), (122, []), (125, []), (128, []), (129, []), (130, [5202]), (133, []), (134, []), (135, [7035, 7037, 25001, 17, 7038]), (138, [])]
def bc_p320 : List (Nat × List Nat) := [(0, []), (1, []), (2, []), (3, [8091]), (6, [7156, 7157, 17, 7158]), (9, []), (12, []), (13, []), (14, [6163, 6165, 23008, 17, 6166]), (17, []), (18, []), (19, []), (20, []), (21, []), (22, []), (23, []), (24, []), (25, [5172]), (28, []), (29, []), (30, []), (31, []), (34, []), (35, [7172, 7173, 17, 7174]), (38, []), (39, [7172, 7173, 17, 7174]), (42, []), (45, []), (46, []), (47, []), (48, [8092, 8094, 27007, 17, 8095]), (51, []), (54, []), (55, []), (56, []), (59, []), (62, []), (63, []), (64, [7035, 7037, 25001, 17, 7038]), (67, [])]
def bc_p321 : List (Nat × List Nat) := [(0, []), (1, []), (2, []), (3, []), (4, []), (7, []), (8, [5203]), (11, []), (12, []), (13, []), (14, [5172]), (17, []), (18, []), (19, []), (22, []), (23, []), (26, []), (27, []), (28, []), (31, []), (34, []), (35, []), (36, []), (37, []), (38, []), (41, []), (42, []), (43, []), (44, []), (45, [5172]), (48, []), (49, []), (50, []), (53, []), (54, [5204]), (57, []), (58, []), (59, []), (60, []), (61, []), (63, []), (65, []), (66, [5172]), (69, []), (70, []), (71, []), (74, []), (75, [5204]), (78, []), (79, []), (80, []), (81, []), (82, []), (84, []), (85, [7147, 7149, 26005, 17, 7150]), (88, []), (91, []), (92, [5203]), (95, []), (97, []), (98, []), (101, []), (102, []), (103, []), (104, []), (107, []), (110, []), (113, []), (116, []), (117, []), (118, []), (119, []), (120, [5172]), (123, []), (124, []), (125, []), (128, []), (129, [5203]), (132, []), (133, []), (134, [5204]), (137, []), (138, []), (139, []), (140, []), (143, []), (146, []), (149, []), (152, [])]
def bc_p322 : List (Nat × List Nat) := [(0, []), (1, []), (2, []), (3, [8108]), (6, [7156, 7157, 17, 7158]), (9, []), (12, []), (13, []), (14, [6163, 6165, 23008, 17, 6166]), (17, []), (18, []), (19, []), (20, []), (21, [8109, 8111, 27009, 17, 8112]), (24, []), (25, []), (26, []), (27, []), (29, []), (31, []), (32, []), (35, []), (36, []), (37, [5203]), (40, []), (42, []), (43, []), (44, []), (45, []), (48, []), (51, []), (52, []), (53, [5174]), (56, []), (57, [])]
def bc_p323 : List (Nat × List Nat) := [(0, []), (1, []), (2, []), (3, [8108]), (6, [7156, 7157, 17, 7158]), (9, []), (12, []), (13, []), (14, [7115, 7117, 26000, 17, 7118]), (17, []), (20, []), (21, []), (22, [6163, 6165, 23008, 17, 6166]), (25, []), (26, []), (27, []), (28, []), (29, [8109, 8111, 27009, 17, 8112]), (32, []), (33, []), (34, [5174]), (37, []), (38, [5203]), (41, []), (42, []), (43, [])]
def bc_p324 : List (Nat × List Nat) := [(0, []), (1, []), (2, []), (3, []), (4, [5172]), (7, []), (8, []), (9, []), (12, []), (13, [5205]), (16, []), (17, []), (18, []), (19, []), (20, []), (21, []), (24, []), (27, []), (28, []), (29, []), (30, []), (31, []), (34, []), (35, []), (36, []), (37, []), (38, [5172]), (41, []), (42, []), (43, []), (46, []), (47, [5205]), (50, []), (51, []), (52, []), (53, []), (54, []), (55, []), (56, []), (57, []), (58, []), (60, []), (62, []), (63, [5172]), (66, []), (67, []), (68, []), (71, []), (72, [5205]), (75, []), (76, []), (77, []), (78, []), (79, []), (80, []), (81, [5205]), (84, []), (85, []), (86, []), (87, []), (88, []), (89, []), (90, []), (91, []), (92, []), (94, [7147, 7149, 26005, 17, 7150]), (97, []), (98, [5205]), (101, []), (102, []), (103, []), (104, []), (105, []), (106, []), (108, []), (109, []), (110, []), (111, [7171, 3179, 20, 3180]), (114, []), (115, []), (118, []), (121, []), (124, []), (127, []), (130, []), (133, []), (134, []), (135, []), (136, []), (137, []), (138, []), (140, []), (142, []), (143, [5172]), (146, []), (147, []), (148, []), (151, []), (152, [5205]), (155, []), (156, []), (157, []), (158, []), (160, []), (161, []), (162, []), (163, []), (166, []), (169, []), (170, [5205]), (173, []), (174, []), (175, []), (176, []), (178, []), (179, []), (180, []), (181, []), (183, []), (184, []), (187, []), (190, []), (191, [])]
def bc_p325 : List (Nat × List Nat) := [(0, []), (1, []), (2, []), (3, [8121]), (6, [7156, 7157, 17, 7158]), (9, []), (12, []), (13, []), (14, [6163, 6165, 23008, 17, 6166]), (17, []), (18, []), (19, []), (20, [8122, 8124, 27010, 17, 8125]), (23, []), (24, []), (25, []), (26, []), (29, []), (30, []), (32, [6163, 6165, 23008, 17, 6166]), (35, []), (38, []), (39, []), (40, [5205]), (43, []), (44, []), (45, []), (46, []), (47, []), (48, []), (49, [7035, 7037, 25001, 17, 7038]), (52, [])]
def bc_p326 : List (Nat × List Nat) := [(0, []), (1, []), (2, []), (3, [8121]), (6, [7156, 7157, 17, 7158]), (9, []), (12, []), (13, []), (16, []), (17, []), (18, [6163, 6165, 23008, 17, 6166]), (21, []), (22, []), (23, []), (24, [8122, 8124, 27010, 17, 8125]), (27, []), (28, []), (29, []), (30, []), (33, []), (34, []), (35, []), (38, []), (39, []), (41, [6163, 6165, 23008, 17, 6166]), (44, []), (45, []), (46, []), (48, []), (50, []), (51, []), (54, []), (55, []), (57, []), (58, []), (59, []), (61, [7147, 7149, 26005, 17, 7150]), (64, []), (65, [5205]), (68, []), (69, []), (70, []), (72, []), (73, []), (74, []), (75, []), (76, []), (78, []), (79, []), (80, []), (81, []), (82, [5205]), (85, []), (86, []), (87, []), (89, []), (90, []), (91, []), (92, []), (93, []), (94, []), (97, []), (100, []), (103, []), (105, []), (106, []), (109, []), (112, []), (113, []), (114, [7035, 7037, 25001, 17, 7038]), (117, [])]
def bc_p327 : List (Nat × List Nat) := [(0, []), (1, []), (2, [7107, 7109, 25015, 17, 7110]), (5, []), (8, []), (9, [6100, 6101, 17, 6102]), (12, []), (15, []), (16, []), (17, []), (18, [8138]), (21, [7156, 7157, 17, 7158]), (24, []), (27, []), (28, []), (29, []), (30, [5178]), (33, []), (34, []), (35, []), (36, []), (39, []), (40, []), (41, []), (42, [5178]), (45, []), (46, []), (47, []), (48, []), (49, []), (50, []), (53, []), (54, []), (55, []), (56, []), (58, []), (60, []), (61, []), (64, []), (66, []), (67, []), (68, []), (69, []), (71, []), (72, []), (73, []), (75, []), (76, [5179]), (79, []), (81, []), (82, []), (83, [8003]), (86, [7156, 7157, 17, 7158]), (89, []), (92, []), (93, [5179]), (96, []), (98, []), (99, []), (100, []), (101, []), (102, []), (103, [5172]), (106, []), (107, []), (108, []), (109, [7156, 7157, 17, 7158]), (112, []), (115, []), (116, []), (117, []), (120, []), (123, []), (124, [])]
def bc_p328 : List (Nat × List Nat) := [(0, []), (1, [5206]), (4, []), (5, []), (6, []), (7, []), (10, []), (11, [5207]), (14, []), (15, []), (16, []), (19, []), (20, [5172]), (23, []), (24, []), (25, [])]
def bc_p329 : List (Nat × List Nat) := [(0, []), (1, []), (4, [8004, 8006, 26014, 17, 8007]), (7, []), (8, []), (10, []), (12, []), (15, []), (18, []), (19, [5206]), (22, []), (24, []), (25, []), (26, [7083, 7085, 25011, 17, 7086]), (29, []), (30, []), (31, [5207]), (34, []), (36, []), (37, []), (38, [7087, 7089, 25012, 17, 7090]), (41, []), (42, []), (43, [7163, 7165, 26007, 17, 7166]), (46, []), (47, []), (50, []), (53, []), (54, []), (57, [8008, 8010, 26015, 17, 8011]), (60, []), (61, []), (62, [5209]), (65, []), (66, []), (68, []), (70, []), (72, []), (75, []), (76, [5208]), (79, []), (81, []), (82, []), (83, []), (84, []), (86, []), (88, []), (89, []), (92, []), (94, []), (95, []), (96, []), (97, []), (99, []), (100, []), (101, []), (103, []), (104, []), (106, []), (107, [5179]), (110, []), (112, []), (113, []), (114, [8143, 8145, 27013, 17, 8146]), (117, []), (118, []), (119, [5179]), (122, []), (124, []), (125, []), (126, []), (127, []), (128, []), (131, []), (132, [5208]), (135, []), (137, []), (138, []), (139, []), (142, []), (145, []), (146, []), (147, [5209]), (150, []), (151, [5208]), (154, []), (156, []), (157, []), (160, []), (161, []), (164, []), (165, []), (166, [5209]), (169, []), (172, []), (175, [])]
def bc_p330 : List (Nat × List Nat) := [(0, []), (1, []), (2, []), (3, []), (4, [8134, 8136, 27011, 17, 8137]), (7, []), (9, []), (11, []), (14, []), (15, []), (17, [6163, 6165, 23008, 17, 6166]), (20, []), (21, []), (22, []), (23, []), (24, []), (25, [8139, 8141, 27012, 17, 8142]), (28, []), (29, []), (30, [5209]), (33, [7035, 7037, 25001, 17, 7038]), (36, [])]
def bc_p331 : List (Nat × List Nat) := [(0, []), (2, []), (5, []), (7, []), (8, []), (11, []), (12, []), (15, []), (16, []), (17, []), (18, []), (19, [8134, 8136, 27011, 17, 8137]), (22, []), (24, []), (26, []), (29, []), (30, []), (32, [6163, 6165, 23008, 17, 6166]), (35, []), (36, []), (37, []), (38, []), (39, []), (40, [8139, 8141, 27012, 17, 8142]), (43, []), (44, [5209]), (47, []), (50, []), (51, []), (53, [6163, 6165, 23008, 17, 6166]), (56, []), (57, []), (59, []), (62, []), (63, []), (66, []), (68, []), (70, []), (71, [5208]), (74, []), (76, []), (77, []), (80, []), (82, []), (84, []), (87, []), (88, []), (91, []), (92, []), (93, []), (95, []), (98, []), (99, []), (101, [7035, 7037, 25001, 17, 7038]), (104, [])]
def bc_p332 : List (Nat × List Nat) := [(0, []), (1, []), (2, []), (3, []), (4, []), (5, []), (7, []), (10, []), (11, [5210]), (14, []), (15, []), (16, []), (17, []), (20, []), (23, []), (24, []), (25, []), (26, []), (28, []), (31, []), (32, [5208]), (35, []), (36, []), (37, []), (40, []), (43, []), (44, []), (45, []), (46, [8143, 8145, 27013, 17, 8146]), (49, []), (51, []), (52, [5210]), (55, []), (57, []), (58, []), (59, []), (60, []), (61, []), (62, []), (63, []), (64, [5210]), (67, []), (69, []), (70, [7171, 3179, 20, 3180]), (73, []), (74, []), (77, []), (80, []), (81, [])]
def bc_p333 : List (Nat × List Nat) := [(0, []), (1, []), (2, []), (3, []), (4, [8134, 8136, 27011, 17, 8137]), (7, []), (9, []), (11, []), (14, []), (15, []), (17, [6163, 6165, 23008, 17, 6166]), (20, []), (21, []), (22, []), (23, []), (24, []), (25, [8139, 8141, 27012, 17, 8142]), (28, []), (29, [5209]), (32, []), (33, []), (36, []), (37, []), (39, [6163, 6165, 23008, 17, 6166]), (42, []), (43, []), (44, []), (46, []), (47, []), (49, []), (51, []), (53, []), (56, []), (57, []), (59, [8155, 8157, 27014, 17, 8158]), (62, []), (63, []), (65, [8155, 8157, 27014, 17, 8158]), (68, []), (71, []), (73, []), (75, []), (78, []), (81, []), (82, []), (84, [7035, 7037, 25001, 17, 7038]), (87, [])]
def bc_p334 : List (Nat × List Nat) := [(0, []), (1, [5213]), (4, []), (5, []), (6, []), (7, []), (10, []), (11, []), (14, []), (15, []), (16, []), (17, []), (20, []), (21, []), (22, []), (23, []), (26, []), (27, []), (28, [5212]), (31, []), (32, []), (33, []), (36, []), (39, []), (40, []), (41, [5212]), (44, []), (45, []), (46, []), (49, []), (50, []), (51, [5212]), (54, []), (55, []), (56, []), (57, []), (58, [5213]), (61, []), (62, []), (63, [5211]), (66, []), (67, []), (68, []), (69, [])]
def bc_p335 : List (Nat × List Nat) := [(0, []), (1, []), (2, [5172]), (5, []), (6, []), (7, []), (10, []), (11, []), (12, []), (13, []), (16, []), (17, []), (18, []), (19, [7179, 7181, 26009, 17, 7182]), (22, []), (23, []), (24, []), (25, []), (26, [7071, 7073, 25008, 17, 7074]), (29, []), (30, []), (33, []), (34, []), (35, []), (36, [5172]), (39, []), (40, [6214, 6215, 17, 6216]), (43, []), (44, []), (45, []), (47, []), (48, []), (49, []), (50, [7071, 7073, 25008, 17, 7074]), (53, []), (54, []), (55, [6162, 2221, 20, 2222]), (58, []), (59, []), (60, [])]
def bc_p336 : List (Nat × List Nat) := [(0, []), (1, []), (2, []), (3, [7091, 7093, 25013, 17, 7094]), (6, []), (7, []), (8, [7083, 7085, 25011, 17, 7086]), (11, []), (12, [])]
def bc_p337 : List (Nat × List Nat) := [(0, []), (1, []), (4, []), (5, []), (6, [8168, 8170, 28000, 17, 8171]), (9, []), (10, []), (11, []), (12, []), (13, []), (14, [8052, 8053, 17, 8054]), (17, [8004, 8006, 26014, 17, 8007]), (20, []), (21, [5211]), (24, []), (25, []), (26, []), (27, []), (28, [5213]), (31, []), (32, []), (33, []), (34, []), (35, []), (36, [8052, 8053, 17, 8054]), (39, [8008, 8010, 26015, 17, 8011]), (42, []), (43, [5211]), (46, []), (47, []), (48, []), (49, []), (50, []), (51, []), (52, []), (53, [5211]), (56, []), (57, []), (58, []), (59, [5172]), (62, []), (63, []), (64, []), (67, []), (68, []), (71, []), (74, []), (77, []), (78, []), (79, []), (80, [5212]), (83, []), (84, []), (85, []), (86, []), (87, [8172, 8174, 28001, 17, 8175]), (90, []), (93, []), (94, []), (95, []), (96, [5211]), (99, []), (100, []), (101, []), (102, []), (103, []), (104, []), (107, []), (108, []), (111, []), (112, [8176, 8178, 28002, 17, 8179]), (115, []), (118, []), (121, []), (122, [7163, 7165, 26007, 17, 7166]), (125, []), (126, []), (127, []), (128, []), (129, []), (130, []), (133, []), (134, []), (135, []), (136, []), (137, [8168, 8170, 28000, 17, 8171]), (140, [8172, 8174, 28001, 17, 8175]), (143, []), (146, []), (149, []), (150, []), (151, [8052, 8053, 17, 8054]), (154, [8004, 8006, 26014, 17, 8007]), (157, []), (158, [5211]), (161, []), (162, []), (163, []), (164, []), (165, [5213]), (168, []), (169, []), (170, []), (171, []), (174, []), (175, []), (176, [8052, 8053, 17, 8054]), (179, [8008, 8010, 26015, 17, 8011]), (182, []), (183, [5212]), (186, []), (187, []), (188, [])]
def bc_p338 : List (Nat × List Nat) := [(0, []), (1, []), (2, [7107, 7109, 25015, 17, 7110]), (5, []), (8, []), (9, []), (10, []), (11, [8163]), (14, [7156, 7157, 17, 7158]), (17, []), (20, []), (21, []), (22, []), (23, []), (24, [8164, 8166, 27015, 17, 8167]), (27, [7035, 7037, 25001, 17, 7038]), (30, []), (33, []), (34, []), (35, [6163, 6165, 23008, 17, 6166]), (38, [])]
def bc_p339 : List (Nat × List Nat) := [(0, []), (1, []), (2, [7107, 7109, 25015, 17, 7110]), (5, []), (8, []), (9, []), (10, []), (11, [8163]), (14, [7156, 7157, 17, 7158]), (17, []), (20, []), (21, []), (22, [6163, 6165, 23008, 17, 6166]), (25, []), (26, []), (27, []), (28, []), (29, [8164, 8166, 27015, 17, 8167]), (32, []), (33, []), (34, [5213]), (37, []), (38, []), (39, []), (40, [5172]), (43, []), (44, []), (45, []), (48, []), (49, []), (51, [6163, 6165, 23008, 17, 6166]), (54, []), (57, []), (58, []), (59, [5213]), (62, []), (63, []), (64, [7035, 7037, 25001, 17, 7038]), (67, [])]
def bc_p340 : List (Nat × List Nat) := [(0, []), (1, []), (2, []), (3, [8108]), (6, [7156, 7157, 17, 7158]), (9, []), (12, []), (13, []), (14, []), (15, [8108]), (18, [7156, 7157, 17, 7158]), (21, []), (24, []), (25, []), (26, [6103, 6105, 23002, 17, 6106]), (29, []), (30, []), (31, []), (32, []), (33, []), (35, []), (37, []), (39, []), (42, []), (43, [5214]), (46, []), (48, []), (50, []), (53, []), (54, []), (57, []), (58, []), (59, []), (62, []), (65, []), (66, []), (68, []), (70, []), (71, []), (74, []), (76, []), (78, []), (80, []), (83, []), (84, [5214]), (87, []), (89, []), (90, [5214]), (93, []), (95, []), (96, []), (98, []), (99, [5172]), (102, []), (103, []), (104, []), (105, []), (106, []), (107, []), (109, []), (112, []), (113, []), (116, []), (117, [5214]), (120, []), (122, []), (123, []), (124, []), (125, []), (126, [5172]), (129, []), (130, []), (131, []), (132, []), (133, []), (134, []), (135, []), (138, []), (141, []), (142, [7235]), (145, []), (146, []), (147, []), (150, []), (153, []), (154, []), (156, []), (157, []), (159, []), (161, []), (163, []), (166, []), (168, []), (169, [5214]), (172, []), (174, []), (175, []), (176, []), (178, []), (181, []), (184, []), (185, []), (187, []), (188, [8188, 8190, 28003, 17, 8191]), (191, [])]
def bc_p341 : List (Nat × List Nat) := [(0, []), (1, [6100, 6101, 17, 6102]), (4, []), (7, []), (8, []), (9, [6163, 6165, 23008, 17, 6166]), (12, []), (13, []), (14, [5178]), (17, []), (18, []), (19, []), (20, []), (23, []), (24, []), (25, [6163, 6165, 23008, 17, 6166]), (28, []), (29, []), (30, [5178]), (33, []), (34, []), (35, []), (36, [5172]), (39, []), (40, []), (41, []), (44, []), (45, []), (46, [6163, 6165, 23008, 17, 6166]), (49, []), (50, []), (51, []), (52, []), (53, []), (54, [5172]), (57, []), (58, []), (59, []), (62, []), (63, [5179]), (66, []), (68, []), (69, []), (70, []), (71, []), (72, []), (73, []), (74, [7083, 7085, 25011, 17, 7086]), (77, []), (78, []), (79, [5177]), (82, []), (83, []), (84, [6115, 6116, 17, 6117]), (87, []), (88, []), (91, []), (94, []), (95, []), (96, [5172]), (99, []), (100, []), (101, [7035, 7037, 25001, 17, 7038]), (104, [])]
def bc_p342 : List (Nat × List Nat) := [(0, []), (1, []), (2, [5215]), (5, []), (8, []), (9, []), (12, []), (13, [8225]), (16, []), (17, [5215]), (20, []), (21, [5215]), (24, []), (26, []), (27, []), (28, []), (29, [])]
def bc_p343 : List (Nat × List Nat) := [(0, []), (1, [5172]), (4, []), (6, []), (7, []), (8, []), (9, []), (12, []), (15, []), (16, []), (17, []), (18, [5218]), (21, []), (22, []), (23, []), (24, []), (25, []), (26, [7159, 7161, 26006, 17, 7162]), (29, []), (30, []), (31, []), (32, [5218]), (35, []), (36, []), (37, []), (38, []), (39, []), (40, []), (41, []), (42, [])]
def bc_p344 : List (Nat × List Nat) := [(0, []), (1, []), (2, []), (3, [7179, 7181, 26009, 17, 7182]), (6, []), (9, []), (10, []), (11, []), (12, [5218]), (15, []), (16, []), (17, []), (18, []), (19, []), (20, []), (21, []), (22, [])]
def bc_p345 : List (Nat × List Nat) := [(0, []), (1, [5172]), (4, []), (5, []), (6, []), (9, []), (10, []), (11, []), (12, []), (13, [5172]), (16, []), (17, []), (18, [8221, 8223, 28009, 17, 8224]), (21, []), (22, []), (23, []), (24, []), (25, []), (26, [5172]), (29, []), (30, []), (31, [8221, 8223, 28009, 17, 8224]), (34, [8213, 8215, 28007, 17, 8216]), (37, [])]
def bc_p346 : List (Nat × List Nat) := [(0, []), (1, [5172]), (4, []), (5, []), (6, []), (7, []), (8, []), (9, []), (10, [5172]), (13, []), (14, []), (15, []), (48, []), (49, []), (50, [8209, 8211, 28006, 17, 8212]), (53, []), (54, []), (55, []), (56, []), (57, [5172]), (60, []), (61, []), (62, []), (63, []), (64, [8213, 8215, 28007, 17, 8216]), (67, []), (68, []), (69, []), (70, [7192, 7194, 26011, 17, 7195]), (73, []), (74, []), (75, []), (76, [7201, 7203, 26012, 17, 7204]), (79, []), (80, []), (81, [8217, 8219, 28008, 17, 8220]), (84, []), (85, []), (86, [])]
def bc_p347 : List (Nat × List Nat) := [(0, []), (1, [5172]), (4, []), (5, []), (6, []), (9, []), (10, []), (11, []), (12, [5172]), (15, []), (16, []), (17, []), (18, []), (19, []), (20, []), (21, []), (23, []), (26, []), (27, [5172]), (30, []), (31, []), (32, []), (35, []), (36, []), (39, []), (40, []), (41, []), (42, []), (44, []), (47, []), (48, []), (49, [7079, 7081, 25010, 17, 7082]), (52, []), (53, []), (54, []), (56, []), (59, []), (60, []), (61, []), (62, [7091, 7093, 25013, 17, 7094]), (65, []), (66, [5172]), (69, []), (70, []), (71, []), (72, []), (73, []), (76, []), (77, []), (80, []), (81, []), (82, []), (83, []), (84, [7083, 7085, 25011, 17, 7086]), (87, []), (89, []), (90, [5172]), (93, []), (94, []), (95, []), (96, []), (97, []), (99, []), (102, []), (104, []), (105, [5172]), (108, []), (109, []), (110, []), (111, []), (112, []), (115, []), (116, []), (119, []), (120, []), (123, []), (124, [5172]), (127, []), (128, []), (129, []), (130, []), (131, []), (133, []), (136, []), (138, []), (139, [5172]), (142, []), (143, []), (144, []), (145, []), (146, []), (149, []), (150, []), (153, []), (154, []), (157, []), (159, []), (160, [5172]), (163, []), (164, []), (165, []), (166, []), (167, []), (170, []), (171, []), (174, []), (175, [])]
def bc_p348 : List (Nat × List Nat) := [(0, []), (1, []), (2, []), (3, []), (4, [5172]), (7, []), (9, []), (10, []), (13, []), (14, [5172]), (17, []), (20, []), (22, []), (23, []), (24, []), (25, []), (26, []), (28, []), (31, []), (32, [5172]), (35, []), (38, []), (40, []), (41, []), (42, []), (43, []), (44, []), (45, []), (46, []), (47, []), (48, [5172]), (51, []), (54, []), (56, []), (57, []), (58, []), (59, []), (60, []), (62, []), (65, []), (66, [5217]), (69, []), (70, []), (71, []), (74, []), (75, []), (78, []), (79, []), (81, []), (82, [5217]), (85, []), (86, []), (87, []), (88, []), (90, []), (93, []), (94, []), (97, []), (98, []), (99, []), (100, []), (102, []), (105, []), (106, []), (107, []), (108, []), (111, []), (112, []), (113, []), (114, []), (115, []), (118, []), (119, [])]
def bc_p349 : List (Nat × List Nat) := [(0, []), (1, []), (2, [5215]), (5, []), (6, []), (7, [5216]), (10, []), (11, []), (12, []), (13, []), (14, []), (17, []), (18, [5218]), (21, []), (22, []), (23, []), (24, []), (27, []), (30, []), (31, []), (32, []), (33, []), (34, [5172]), (37, []), (39, []), (40, []), (43, []), (44, [5216]), (47, []), (50, []), (53, []), (54, [5218]), (57, []), (58, []), (59, []), (60, []), (61, []), (64, []), (66, []), (67, []), (68, []), (69, []), (70, []), (71, []), (72, [5216]), (75, []), (76, []), (77, [5216]), (80, []), (81, [5172]), (84, []), (85, []), (86, []), (88, []), (91, []), (92, []), (93, [5218]), (96, []), (97, []), (98, []), (99, []), (100, []), (101, [8205, 8207, 28005, 17, 8208]), (104, []), (107, []), (108, []), (111, []), (112, []), (113, []), (114, []), (115, [5172]), (118, []), (119, []), (120, []), (122, []), (125, []), (126, [5217]), (129, []), (130, []), (131, [5172]), (134, []), (135, []), (136, []), (137, []), (138, []), (139, []), (140, []), (141, []), (142, []), (143, [5172]), (146, []), (147, []), (148, []), (151, []), (154, []), (155, []), (156, [8226, 8228, 28010, 17, 8229]), (159, []), (162, []), (163, [5172]), (166, []), (167, []), (168, []), (169, []), (170, []), (171, []), (172, []), (175, []), (176, []), (177, []), (178, [8230, 8232, 28011, 17, 8233]), (181, []), (182, []), (185, [])]
def bc_p350 : List (Nat × List Nat) := [(0, []), (1, []), (2, []), (3, [8200]), (6, [7156, 7157, 17, 7158]), (9, []), (12, []), (13, []), (14, [6163, 6165, 23008, 17, 6166]), (17, []), (18, []), (19, [5172]), (22, []), (24, []), (25, []), (26, []), (29, []), (30, []), (32, [6163, 6165, 23008, 17, 6166]), (35, []), (36, []), (37, []), (38, [8201, 8203, 28004, 17, 8204]), (41, []), (42, []), (43, []), (44, []), (45, []), (48, []), (49, [5219]), (52, []), (53, []), (54, [5218]), (57, []), (58, []), (59, []), (60, []), (63, []), (66, []), (67, []), (68, [5220]), (71, []), (72, []), (73, [5216]), (76, [7035, 7037, 25001, 17, 7038]), (79, [])]
def bc_p351 : List (Nat × List Nat) := [(0, []), (1, []), (4, []), (5, []), (6, []), (9, []), (10, []), (11, [6163, 6165, 23008, 17, 6166]), (14, []), (17, []), (18, [5220]), (21, []), (24, []), (25, []), (26, [5219]), (29, []), (30, []), (31, [7035, 7037, 25001, 17, 7038]), (34, []), (37, []), (38, []), (40, [6163, 6165, 23008, 17, 6166]), (43, [])]
def bc_p352 : List (Nat × List Nat) := [(0, []), (1, []), (2, []), (3, [8200]), (6, [7156, 7157, 17, 7158]), (9, []), (12, []), (13, []), (14, []), (15, [8138]), (18, [7156, 7157, 17, 7158]), (21, []), (24, []), (25, []), (26, []), (27, []), (28, []), (29, []), (32, []), (35, []), (36, []), (37, [6103, 6105, 23002, 17, 6106]), (40, []), (41, []), (42, [5172]), (45, []), (47, []), (48, []), (49, []), (52, []), (53, []), (55, [6103, 6105, 23002, 17, 6106]), (58, []), (59, []), (60, []), (63, [8004, 8006, 26014, 17, 8007]), (66, []), (67, []), (68, []), (69, []), (71, []), (73, []), (74, []), (77, []), (78, []), (79, []), (81, []), (82, [8201, 8203, 28004, 17, 8204]), (85, []), (86, []), (87, []), (88, [7075, 7077, 25009, 17, 7078]), (91, [7172, 7173, 17, 7174]), (94, []), (95, []), (96, []), (97, []), (98, []), (101, [8008, 8010, 26015, 17, 8011]), (104, []), (107, []), (110, []), (111, []), (112, []), (113, []), (114, [8188, 8190, 28003, 17, 8191]), (117, [])]
def bc_p353 : List (Nat × List Nat) := [(0, []), (1, []), (2, []), (3, []), (6, []), (9, []), (10, [5172]), (13, []), (16, []), (17, []), (18, []), (19, []), (20, []), (21, [5172]), (24, []), (27, []), (28, []), (29, []), (30, []), (31, []), (32, []), (33, []), (36, []), (39, []), (40, []), (41, []), (42, []), (44, []), (47, []), (48, [5173]), (51, []), (53, []), (54, []), (55, []), (56, []), (57, []), (58, [5173]), (61, []), (63, []), (64, []), (65, []), (66, []), (67, []), (68, []), (69, []), (72, []), (75, [])]
def bc_p354 : List (Nat × List Nat) := [(0, []), (1, [5221]), (4, []), (5, []), (8, []), (9, []), (10, [6163, 6165, 23008, 17, 6166]), (13, []), (14, []), (15, []), (16, [5221]), (19, []), (20, []), (21, [5221]), (24, []), (25, []), (26, []), (27, [5221]), (30, [9006, 9008, 28012, 17, 9009]), (33, []), (34, []), (35, [5221]), (38, [7035, 7037, 25001, 17, 7038]), (41, [])]
def bc_p355 : List (Nat × List Nat) := [(0, []), (1, [5221]), (4, []), (7, []), (8, []), (10, [6163, 6165, 23008, 17, 6166]), (13, []), (14, []), (15, []), (16, [5221]), (19, []), (20, [9006, 9008, 28012, 17, 9009]), (23, []), (24, []), (25, [5221]), (28, []), (29, []), (30, [5221]), (33, []), (34, []), (35, [5221]), (38, [7035, 7037, 25001, 17, 7038]), (41, [])]
def bc_p356 : List (Nat × List Nat) := [(0, []), (1, []), (2, []), (3, []), (4, [4008]), (7, []), (8, []), (9, []), (10, []), (11, [4009]), (14, []), (15, []), (16, []), (17, []), (18, [4009]), (21, []), (22, []), (23, []), (24, []), (25, []), (26, []), (27, []), (28, []), (29, [4010]), (32, []), (33, []), (34, []), (35, []), (36, []), (38, []), (39, []), (40, []), (41, []), (42, []), (43, []), (45, []), (46, []), (47, []), (48, []), (49, []), (51, []), (52, [])]
def bc_p357 : List (Nat × List Nat) := [(0, []), (1, []), (2, []), (3, []), (4, [5031]), (7, []), (8, []), (9, []), (10, []), (11, [5032]), (14, []), (15, []), (16, []), (17, []), (18, [5032]), (21, []), (22, []), (23, []), (24, []), (25, []), (26, []), (27, []), (28, []), (29, [5033]), (32, []), (33, []), (34, []), (35, []), (36, []), (38, []), (39, []), (40, []), (41, []), (42, []), (43, []), (45, []), (46, []), (47, []), (48, []), (49, []), (50, []), (52, []), (53, []), (54, []), (55, []), (56, []), (57, []), (59, []), (60, [])]
def bc_p358 : List (Nat × List Nat) := [(0, []), (1, []), (4, []), (5, []), (6, []), (9, []), (10, [])]
def bc_p359 : List (Nat × List Nat) := [(0, []), (1, []), (2, []), (5, []), (6, []), (9, []), (10, [])]
def bc_p360 : List (Nat × List Nat) := [(0, []), (1, []), (2, []), (5, []), (6, []), (9, []), (10, [])]
def bc_p361 : List (Nat × List Nat) := [(0, []), (1, []), (2, []), (3, []), (4, []), (5, []), (6, []), (7, []), (10, []), (11, []), (12, []), (13, []), (14, []), (17, []), (20, [])]
def bc_PT : List (List (List (Nat × List Nat))) := [[bc_p0, bc_p1, bc_p2, bc_p3, bc_p4, bc_p5, bc_p6, bc_p7, bc_p8, bc_p9, bc_p10, bc_p11, bc_p12, bc_p13, bc_p14, bc_p15],
  [bc_p16, bc_p17, bc_p18, bc_p19, bc_p20, bc_p21, bc_p22, bc_p23, bc_p24, bc_p25, bc_p26, bc_p27, bc_p28, bc_p29, bc_p30, bc_p31],
  [bc_p32, bc_p33, bc_p34, bc_p35, bc_p36, bc_p37, bc_p38, bc_p39, bc_p40, bc_p41, bc_p42, bc_p43, bc_p44, bc_p45, bc_p46, bc_p47],
  [bc_p48, bc_p49, bc_p50, bc_p51, bc_p52, bc_p53, bc_p54, bc_p55, bc_p56, bc_p57, bc_p58, bc_p59, bc_p60, bc_p61, bc_p62, bc_p63],
  [bc_p64, bc_p65, bc_p66, bc_p67, bc_p68, bc_p69, bc_p70, bc_p71, bc_p72, bc_p73, bc_p74, bc_p75, bc_p76, bc_p77, bc_p78, bc_p79],
  [bc_p80, bc_p81, bc_p82, bc_p83, bc_p84, bc_p85, bc_p86, bc_p87, bc_p88, bc_p89, bc_p90, bc_p91, bc_p92, bc_p93, bc_p94, bc_p95],
  [bc_p96, bc_p97, bc_p98, bc_p99, bc_p100, bc_p101, bc_p102, bc_p103, bc_p104, bc_p105, bc_p106, bc_p107, bc_p108, bc_p109, bc_p110, bc_p111],
  [bc_p112, bc_p113, bc_p114, bc_p115, bc_p116, bc_p117, bc_p118, bc_p119, bc_p120, bc_p121, bc_p122, bc_p123, bc_p124, bc_p125, bc_p126, bc_p127],
  [bc_p128, bc_p129, bc_p130, bc_p131, bc_p132, bc_p133, bc_p134, bc_p135, bc_p136, bc_p137, bc_p138, bc_p139, bc_p140, bc_p141, bc_p142, bc_p143],
  [bc_p144, bc_p145, bc_p146, bc_p147, bc_p148, bc_p149, bc_p150, bc_p151, bc_p152, bc_p153, bc_p154, bc_p155, bc_p156, bc_p157, bc_p158, bc_p159],
  [bc_p160, bc_p161, bc_p162, bc_p163, bc_p164, bc_p165, bc_p166, bc_p167, bc_p168, bc_p169, bc_p170, bc_p171, bc_p172, bc_p173, bc_p174, bc_p175],
  [bc_p176, bc_p177, bc_p178, bc_p179, bc_p180, bc_p181, bc_p182, bc_p183, bc_p184, bc_p185, bc_p186, bc_p187, bc_p188, bc_p189, bc_p190, bc_p191],
  [bc_p192, bc_p193, bc_p194, bc_p195, bc_p196, bc_p197, bc_p198, bc_p199, bc_p200, bc_p201, bc_p202, bc_p203, bc_p204, bc_p205, bc_p206, bc_p207],
  [bc_p208, bc_p209, bc_p210, bc_p211, bc_p212, bc_p213, bc_p214, bc_p215, bc_p216, bc_p217, bc_p218, bc_p219, bc_p220, bc_p221, bc_p222, bc_p223],
  [bc_p224, bc_p225, bc_p226, bc_p227, bc_p228, bc_p229, bc_p230, bc_p231, bc_p232, bc_p233, bc_p234, bc_p235, bc_p236, bc_p237, bc_p238, bc_p239],
  [bc_p240, bc_p241, bc_p242, bc_p243, bc_p244, bc_p245, bc_p246, bc_p247, bc_p248, bc_p249, bc_p250, bc_p251, bc_p252, bc_p253, bc_p254, bc_p255],
  [bc_p256, bc_p257, bc_p258, bc_p259, bc_p260, bc_p261, bc_p262, bc_p263, bc_p264, bc_p265, bc_p266, bc_p267, bc_p268, bc_p269, bc_p270, bc_p271],
  [bc_p272, bc_p273, bc_p274, bc_p275, bc_p276, bc_p277, bc_p278, bc_p279, bc_p280, bc_p281, bc_p282, bc_p283, bc_p284, bc_p285, bc_p286, bc_p287],
  [bc_p288, bc_p289, bc_p290, bc_p291, bc_p292, bc_p293, bc_p294, bc_p295, bc_p296, bc_p297, bc_p298, bc_p299, bc_p300, bc_p301, bc_p302, bc_p303],
  [bc_p304, bc_p305, bc_p306, bc_p307, bc_p308, bc_p309, bc_p310, bc_p311, bc_p312, bc_p313, bc_p314, bc_p315, bc_p316, bc_p317, bc_p318, bc_p319],
  [bc_p320, bc_p321, bc_p322, bc_p323, bc_p324, bc_p325, bc_p326, bc_p327, bc_p328, bc_p329, bc_p330, bc_p331, bc_p332, bc_p333, bc_p334, bc_p335],
  [bc_p336, bc_p337, bc_p338, bc_p339, bc_p340, bc_p341, bc_p342, bc_p343, bc_p344, bc_p345, bc_p346, bc_p347, bc_p348, bc_p349, bc_p350, bc_p351],
  [bc_p352, bc_p353, bc_p354, bc_p355, bc_p356, bc_p357, bc_p358, bc_p359, bc_p360, bc_p361]]
def bc_pw (k : Nat) : List (Nat × List Nat) := bc_two bc_PT k []
def bc_nest : List (String × Nat × MethodName) := [("BeastCave", 19, ⟨"BeastCave$Trays", "<init>", "()V"⟩),
  ("BeastCave", 42, ⟨"BeastCave$Life", "<init>", "()V"⟩),
  ("BeastCave", 49, ⟨"BeastCave$Ahead", "<init>", "()V"⟩),
  ("BeastCave", 56, ⟨"BeastCave$Search", "<init>", "()V"⟩),
  ("BeastCave", 66, ⟨"BeastCave$Cave", "<init>", "()V"⟩),
  ("BeastCave", 76, ⟨"BeastCave$Days", "<init>", "()V"⟩),
  ("BeastCave$Ahead", 89, ⟨"BeastCave", "within", "(III)Z"⟩),
  ("BeastCave$Cave", 20, ⟨"BeastCave$Beasts", "<init>", "()V"⟩),
  ("BeastCave$Cave", 27, ⟨"BeastCave$Walls", "<init>", "()V"⟩),
  ("BeastCave$Cave", 34, ⟨"BeastCave$Figures", "<init>", "()V"⟩),
  ("BeastCave$Days", 46, ⟨"BeastCave", "within", "(III)Z"⟩),
  ("BeastCave$Figures", 34, ⟨"BeastCave", "has", "(II)Z"⟩),
  ("BeastCave$Life", 95, ⟨"BeastCave", "within", "(III)Z"⟩),
  ("BeastCave$Search", 80, ⟨"BeastCave", "has", "(II)Z"⟩),
  ("BeastCave$Trays", 22, ⟨"BeastCave", "within", "(III)Z"⟩)]
end
section
/-! ===== the small machine's code against the bytecode: what a program checks ===== -/
/-- a list's place, by the recursor alone -/
noncomputable def bc_nth {α : Type} (l : List α) : Nat → Option α := @List.rec α (fun _ => Nat → Option α) (fun _ => none) (fun a _ ih n => @Nat.rec (fun _ => Option α) (some a) (fun m _ => ih m) n) l
theorem bc_nth_e {α : Type} (l : List α) (n : Nat) : bc_nth l n = l[n]? := by
  induction l generalizing n with
  | nil => rfl
  | cons a l ih => cases n with
    | zero => rfl
    | succ n => exact ih n
noncomputable def bc_pc (k n : Nat) : Option Nat := (bc_nth (bc_pw k) n).map (·.1)
noncomputable def bc_pce (q : Nat) : List Jvm.Cond := match q with
  | 0 => tables_1_1 | 1 => tables_1_2 | 2 => tables_1_3 | 3 => tables_1_4 | 4 => tables_1_5 | 5 => tables_1_6 | 6 => tables_1_7 | 7 => tables_1_8 | 8 => tables_1_9 | 9 => tables_1_10 | _ => []
def bc_prv (q : Nat) : List (MethodName × Nat) := match q with
  | 20 => lw_privs_1 | 21 => lw_privs_2 | 22 => lw_privs_3 | 23 => lw_privs_4 | 24 => lw_privs_5 | 25 => lw_privs_6 | 26 => lw_privs_7 | 27 => lw_privs_8 | 28 => lw_privs_9 | _ => []
/-- the word of that number -/
noncomputable def bc_lk (q : Nat) : Option Jvm.Cond := match Nat.ble 20000 q with
  | false => bc_nth (bc_pce (q / 1000)) (q % 1000)
  | true => (bc_nth (bc_prv (q / 1000)) (q % 1000)).map (fun r => Cond.selects r.1.cls r.1 r.1)
theorem bc_pce_in {q : Nat} {w : Jvm.Cond} (h : w ∈ bc_pce q) : w ∈ lw_tbl := by
  unfold bc_pce at h
  unfold lw_tbl tables_1
  simp only [List.mem_append]
  split at h
  all_goals first
    | exact absurd h List.not_mem_nil
    | simp only [h, or_true, true_or]
theorem bc_prv_in {q : Nat} {r : MethodName × Nat} (h : r ∈ bc_prv q) : Cond.selects r.1.cls r.1 r.1 ∈ lw_tbl := by
  have h1 : r ∈ lw_privs := by
    unfold bc_prv at h
    unfold lw_privs
    simp only [List.mem_append]
    split at h
    all_goals first
      | exact absurd h List.not_mem_nil
      | simp only [h, or_true, true_or]
  unfold lw_tbl k2_sels
  exact List.mem_append_left _ (List.mem_map.mpr ⟨r, h1, rfl⟩)
theorem bc_lk_in {q : Nat} {w : Jvm.Cond} (h : bc_lk q = some w) : w ∈ lw_tbl := by
  unfold bc_lk at h
  split at h
  · rw [bc_nth_e] at h
    exact bc_pce_in (List.mem_of_getElem? h)
  · rw [bc_nth_e] at h
    cases hr : (bc_prv (q / 1000))[q % 1000]? with
    | none => rw [hr] at h; cases h
    | some r =>
      rw [hr] at h
      cases h
      exact bc_prv_in (List.mem_of_getElem? hr)
/-- the word at that place of a row's words, if it is that one -/
noncomputable def bc_wd (wi : List Nat) (n : Nat) (w : Jvm.Cond) : Bool := match bc_nth wi n with
  | some q => match bc_lk q with
    | some v => decide (v = w) && goodWord w
    | none => false
  | none => false
def bc_T : List Jvm.Cond := lw_tbl.filter goodWord
theorem bc_wd_in {wi : List Nat} {n : Nat} {w : Jvm.Cond} (h : bc_wd wi n w = true) : w ∈ bc_T := by
  unfold bc_wd at h
  split at h
  · split at h
    · rename_i v hv
      simp only [Bool.and_eq_true, decide_eq_true_eq] at h
      obtain ⟨rfl, h2⟩ := h
      exact List.mem_filter.mpr ⟨bc_lk_in hv, h2⟩
    · cases h
  · cases h
noncomputable def bc_to (k : Nat) (pc : Nat) (off t : Int) : Bool := decide (0 ≤ t) && match bc_pc k t.toNat with
  | some q => decide ((pc : Int) + off = (q : Int))
  | none => false
def bc_cF (c f : Nat) : String × String × String × Bool := match vwCl[c]? with
  | some q => if f < q.2.2 then q.2.1 f else ("", "", "", false)
  | none => ("", "", "", false)
/-- one row: what is decoded, and what stands in the small machine's code -/
noncomputable def bc_rel (k : Nat) (pc : Nat) (nx : Option Nat) (wi : List Nat) (j : Instr) (len : Nat) (i : Instr) : Bool :=
  match i with
  | .iconst n => decide (nx = some (pc + len)) && decide (bc_i n) && match j with
    | .iconst m => decide (m = n) && decide (len = 1)
    | .bipush m => decide ((Int8.ofInt m).toInt32 = Int32.ofInt n) && decide (len = 2)
    | .sipush m => decide ((Int16.ofInt m).toInt32 = Int32.ofInt n) && decide (len = 3)
    | .ldc q => bc_wd wi 0 (.constant (bc_mi k).1 q (Int32.ofInt n)) && decide (len = 2)
    | .ldc_w q => bc_wd wi 0 (.constant (bc_mi k).1 q (Int32.ofInt n)) && decide (len = 3)
    | _ => false
  | .sipush n => decide (nx = some (pc + len)) && decide (bc_j n) && match j with
    | .lconst f => decide (Int64.ofNat f.val = Int64.ofInt n) && decide (len = 1)
    | .ldc2_w q => bc_wd wi 0 (.constantLong (bc_mi k).1 q (Int64.ofInt n)) && decide (len = 3)
    | _ => false
  | .ldc n => decide (nx = some (pc + 2)) && decide (len = 2) && match n with
    | 0 => decide ((bc_mi k).1 = "BeastCave$Text") && decide (j = .ldc 29)
    | 1 => decide ((bc_mi k).1 = "BeastCaveModel") && decide (j = .ldc 211)
    | _ => false
  | .iload n => decide (nx = some (pc + len)) && match j with
    | .iload m => decide (m = n) && decide (len = 2)
    | .iload_n f => decide (f.val = n) && decide (len = 1)
    | _ => false
  | .lload n => decide (nx = some (pc + len)) && match j with
    | .lload m => decide (m = n) && decide (len = 2)
    | .lload_n f => decide (f.val = n) && decide (len = 1)
    | _ => false
  | .aload n => decide (nx = some (pc + len)) && match j with
    | .aload m => decide (m = n) && decide (len = 2)
    | .aload_n f => decide (f.val = n) && decide (len = 1)
    | _ => false
  | .istore n => decide (nx = some (pc + len)) && decide (n < (bc_mi k).2.2.2.1) && match j with
    | .istore m => decide (m = n) && decide (len = 2)
    | .istore_n f => decide (f.val = n) && decide (len = 1)
    | _ => false
  | .lstore n => decide (nx = some (pc + len)) && decide (n + 1 < (bc_mi k).2.2.2.1) && match j with
    | .lstore m => decide (m = n) && decide (len = 2)
    | .lstore_n f => decide (f.val = n) && decide (len = 1)
    | _ => false
  | .astore n => decide (nx = some (pc + len)) && decide (n < (bc_mi k).2.2.2.1) && match j with
    | .astore m => decide (m = n) && decide (len = 2)
    | .astore_n f => decide (f.val = n) && decide (len = 1)
    | _ => false
  | .iinc n q => decide (nx = some (pc + 3)) && decide (n < (bc_mi k).2.2.2.1) && decide (j = .iinc n q) && decide (len = 3)
  | .goto t => match j with
    | .goto off => bc_to k pc off t && decide (len = 3)
    | _ => false
  | .ifCond c t => decide (nx = some (pc + 3)) && match j with
    | .ifCond c2 off => decide (c = c2) && bc_to k pc off t && decide (len = 3)
    | _ => false
  | .if_icmp c t => decide (nx = some (pc + 3)) && match j with
    | .if_icmp c2 off => decide (c = c2) && bc_to k pc off t && decide (len = 3)
    | _ => false
  | .lookupswitch t ps => match j with
    | .tableswitch d lo hi offs => bc_to k pc d t && decide (hi = lo + offs.size - 1) && (List.range offs.size).all (fun n => match offs[n]? with
        | some off => match ps.toList.find? (fun q => q.1 == lo + n) with
          | some q => bc_to k pc off q.2
          | none => bc_to k pc off t
        | none => false) && ps.toList.all (fun q => decide (lo ≤ q.1 ∧ q.1 ≤ hi))
    | .lookupswitch d qs => bc_to k pc d t && (qs.toList.zip (qs.toList.drop 1)).all (fun (a, next) => a.1 < next.1) && decide (qs.size = ps.size) && (List.range qs.size).all (fun n => match qs[n]?, ps[n]? with
        | some a, some b => decide (a.1 = b.1) && bc_to k pc a.2 b.2
        | _, _ => false)
    | _ => false
  | .getfield n => decide (nx = some (pc + 3)) && decide (n / 64 < 13) && decide (n % 64 < (vwCl.getD (n / 64) ("", TX0, 0)).2.2) && match j with
    | .getfield q => bc_wd wi 0 (.fieldLink (bc_mi k).1 q (bc_cF (n / 64) (n % 64)).1 (bc_cF (n / 64) (n % 64)).2.1 (bc_cF (n / 64) (n % 64)).2.2.1) && decide (len = 3)
    | _ => false
  | .putfield n => decide (nx = some (pc + 3)) && decide (n / 64 < 13) && decide (n % 64 < (vwCl.getD (n / 64) ("", TX0, 0)).2.2) && ((!(bc_cF (n / 64) (n % 64)).2.2.2) || (decide ((bc_mi k).2.1.name = "<init>") && decide ((bc_mi k).1 = (bc_cF (n / 64) (n % 64)).1))) && match j with
    | .putfield q => bc_wd wi 0 (.fieldLink (bc_mi k).1 q (bc_cF (n / 64) (n % 64)).1 (bc_cF (n / 64) (n % 64)).2.1 (bc_cF (n / 64) (n % 64)).2.2.1) && decide (len = 3)
    | _ => false
  | .invokestatic n => decide (nx = some (pc + 3)) && decide (len = 3) && decide ((0 < n ∧ n < 362) ∧ ¬ (357 < n ∧ n < 361)) && decide ((bc_mt n).1 = (bc_mt n).2.2.2.1) && match j with
    | .invokestatic q => (bc_wd wi 0 (.methodLink (bc_mi k).1 q (bc_mi n).2.1) || decide (((bc_mi k).1, q, (bc_mi n).2.1) ∈ bc_nest)) && bc_wd wi 1 (.static (bc_mi n).2.1) && bc_wd wi 2 (.initialized (bc_mi n).2.1.cls)
    | _ => false
  | .invokevirtual n => decide (nx = some (pc + 3)) && decide (len = 3) && decide ((0 < n ∧ n < 362) ∧ ¬ (357 < n ∧ n < 361)) && decide ((bc_mt n).1 = (bc_mt n).2.2.2.1 + 1) && decide ((vwCl.getD (bc_mt n).2.2.2.2 ("", TX0, 0)).1 = (bc_mi n).2.1.cls) && decide ((bc_mt n).2.2.2.2 < 13) && match j with
    | .invokevirtual q => bc_wd wi 0 (.methodLink (bc_mi k).1 q (bc_mi n).2.1) && bc_wd wi 1 (.instanceMethod (bc_mi n).2.1) && bc_wd wi 2 (.selects (bc_mi n).2.1.cls (bc_mi n).2.1 (bc_mi n).2.1) && bc_wd wi 3 (.initialized (bc_mi n).2.1.cls)
    | _ => false
  | .invokespecial n => decide (nx = some (pc + 3)) && decide (len = 3) && decide ((0 < n ∧ n < 362) ∧ ¬ (357 < n ∧ n < 361)) && decide ((bc_mt n).1 = (bc_mt n).2.2.2.1 + 1) && decide ((vwCl.getD (bc_mt n).2.2.2.2 ("", TX0, 0)).1 = (bc_mi n).2.1.cls) && decide ((bc_mt n).2.2.2.2 < 13) && decide ((bc_mi n).2.1.name = "<init>") && decide ((bc_mi n).2.2.2.2 = none) && match j with
    | .invokespecial q => (bc_wd wi 0 (.methodLink (bc_mi k).1 q (bc_mi n).2.1) || decide (((bc_mi k).1, q, (bc_mi n).2.1) ∈ bc_nest)) && bc_wd wi 1 (.instanceMethod (bc_mi n).2.1) && bc_wd wi 2 (.initialized (bc_mi n).2.1.cls)
    | _ => false
  | .ret 0 => decide (nx = some (pc + 3)) && decide (len = 3) && match j with
    | .invokespecial q => bc_wd wi 0 (.methodLink (bc_mi k).1 q Lib.objectInit) && bc_wd wi 1 (.instanceMethod Lib.objectInit) && bc_wd wi 2 (.code Lib.objectInit ⟨#[0xb1]⟩ 1 none)
    | _ => false
  | .ret 1 => decide (nx = some (pc + 3)) && decide (len = 3) && match j with
    | .invokestatic q => bc_wd wi 0 (.methodLink (bc_mi k).1 q arraycopyName) && bc_wd wi 1 (.native arraycopyName) && bc_wd wi 2 (.static arraycopyName) && bc_wd wi 3 (.initialized "java/lang/System")
    | _ => false
  | .ret 2 => decide (nx = some (pc + 3)) && decide (len = 3) && match j with
    | .invokevirtual q => bc_wd wi 0 (.methodLink (bc_mi k).1 q ⟨"java/lang/String", "length", "()I"⟩)
    | _ => false
  | .ret 3 => decide (nx = some (pc + 3)) && decide (len = 3) && match j with
    | .invokevirtual q => bc_wd wi 0 (.methodLink (bc_mi k).1 q ⟨"java/lang/String", "charAt", "(I)C"⟩)
    | _ => false
  | .ret 4 => decide (nx = some (pc + 3)) && decide (len = 3) && match j with
    | .invokestatic q => bc_wd wi 0 (.methodLink (bc_mi k).1 q Lib.Math.abs.name) && bc_wd wi 1 (.static Lib.Math.abs.name) && bc_wd wi 2 (.initialized "java/lang/Math") && bc_wd wi 3 (.code Lib.Math.abs.name Lib.Math.abs.code 1 (some .int))
    | _ => false
  | .ret 5 => decide (nx = some (pc + 3)) && decide (len = 3) && match j with
    | .invokestatic q => bc_wd wi 0 (.methodLink (bc_mi k).1 q Lib.Math.max.name) && bc_wd wi 1 (.static Lib.Math.max.name) && bc_wd wi 2 (.initialized "java/lang/Math") && bc_wd wi 3 (.code Lib.Math.max.name Lib.Math.max.code 2 (some .int))
    | _ => false
  | .ret 6 => decide (nx = some (pc + 3)) && decide (len = 3) && match j with
    | .invokestatic q => bc_wd wi 0 (.methodLink (bc_mi k).1 q Lib.Math.min.name) && bc_wd wi 1 (.static Lib.Math.min.name) && bc_wd wi 2 (.initialized "java/lang/Math") && bc_wd wi 3 (.code Lib.Math.min.name Lib.Math.min.code 2 (some .int))
    | _ => false
  | .new c => decide (nx = some (pc + 3)) && decide (len = 3) && decide (c < 13) && match j with
    | .new q => bc_wd wi 0 (.classLink (bc_mi k).1 q (vwCl.getD c ("", TX0, 0)).1) && bc_wd wi 1 (.instantiable (vwCl.getD c ("", TX0, 0)).1 (vwCl.getD c ("", TX0, 0)).2.2) && bc_wd wi 2 (.initialized (vwCl.getD c ("", TX0, 0)).1)
    | _ => false
  | .newarray a => decide (nx = some (pc + 2)) && decide (len = 2) && decide (j = .newarray a) && bc_wd wi 0 (.arrayClass (newarray.typeOf a))
  | .anewarray c => decide (nx = some (pc + 3)) && decide (len = 3) && decide (c = 2 ∨ c = 3) && match j with
    | .anewarray q => bc_wd wi 0 (.classLink (bc_mi k).1 q (vwCl.getD c ("", TX0, 0)).1)
    | _ => false
  | .ireturn => decide (j = .ireturn) && decide (len = 1)
  | .lreturn => decide (j = .lreturn) && decide (len = 1)
  | .return_ => decide (j = .return_) && decide (len = 1)
  | i => decide (j = i) && decide (len = 1) && decide (nx = some (pc + 1))
noncomputable def bc_ckL (k : Nat) : List Instr → List (Nat × List Nat) → Bool
  | [], [] => true
  | i :: is, (pc, wi) :: ps => (match decode (bc_mi k).2.2.1 pc with
    | .ok (j, len) => bc_rel k pc (ps.head?.map (·.1)) wi j len i
    | .error _ => false) && bc_ckL k is ps
  | _, _ => false
theorem bc_ckL_at {k : Nat} : ∀ (is : List Instr) (ps : List (Nat × List Nat)), bc_ckL k is ps = true → ∀ (n : Nat) (i : Instr) (pc : Nat) (wi : List Nat), is[n]? = some i → ps[n]? = some (pc, wi) →
    ∃ (j : Instr) (len : Nat), decode (bc_mi k).2.2.1 pc = .ok (j, len) ∧ bc_rel k pc ((ps[n + 1]?).map (·.1)) wi j len i = true
  | [], ps, _, n, i, pc, wi, h1, _ => by simp at h1
  | i0 :: is, [], h, n, i, pc, wi, _, h2 => by simp at h2
  | i0 :: is, (pc0, wi0) :: ps, h, n, i, pc, wi, h1, h2 => by
    unfold bc_ckL at h
    simp only [Bool.and_eq_true] at h
    cases n with
    | zero =>
      simp only [List.getElem?_cons_zero, Option.some.injEq, Prod.mk.injEq] at h1 h2
      obtain ⟨rfl, rfl⟩ := h2
      subst h1
      have h3 := h.1
      split at h3
      · rename_i j len hd
        refine ⟨j, len, hd, ?_⟩
        rw [List.getElem?_cons_succ, ← List.head?_eq_getElem?]
        exact h3
      · cases h3
    | succ n =>
      rw [List.getElem?_cons_succ] at h1 h2
      rw [List.getElem?_cons_succ]
      exact bc_ckL_at is ps h.2 n i pc wi h1 h2
/-- a whole method -/
def bc_rcd (r : Option FieldType) : Nat := match r with
  | none => 0 | some .int => 1 | some .long => 2 | some .boolean => 3 | _ => 9
noncomputable def bc_ckM (k : Nat) : Bool := bc_ckL k (bc_code k) (bc_pw k) && decide (bc_pc k 0 = some 0) &&
  decide ((bc_mt k).2.1 = bc_rcd (bc_mi k).2.2.2.2) && decide ((bc_mt k).2.2.1 = (bc_mi k).2.2.2.1) && decide ((bc_mi k).2.1.cls = (bc_mi k).1) && plainName (bc_mi k).2.1.cls &&
  decide ((bc_mi k).2.1.cls ≠ "java/lang/invoke/MethodHandle") && decide ((bc_mi k).2.1.cls ≠ "java/lang/invoke/VarHandle") && decide ((bc_mi k).2.2.2.1 ≤ 31) && decide ((parseMethodDescriptor (bc_mi k).2.1.desc).map (fun d => d.parameters.length) = some (bc_mt k).2.2.2.1)
end
section
/-! ===== the small machine's points against the JVM's ===== -/
/-- what is fixed: first free cell, script's cell, its length; its numbers; where the String constants and their rows are; array classes; slots -/
abbrev bc_GG : Type := (Nat × Nat × Nat) × (Nat → Int32) × (Nat → Nat) × (Nat → Nat) × (Nat → ClassId) × va_G
abbrev bc_q0 (g : bc_GG) : Nat := g.1.1
abbrev bc_b (g : bc_GG) : Nat := g.1.2.1
abbrev bc_len (g : bc_GG) : Nat := g.1.2.2
abbrev bc_xs (g : bc_GG) : Nat → Int32 := g.2.1
abbrev bc_aK (g : bc_GG) : Nat → Nat := g.2.2.1
abbrev bc_aV (g : bc_GG) : Nat → Nat := g.2.2.2.1
abbrev bc_cA (g : bc_GG) : Nat → ClassId := g.2.2.2.2.1
abbrev bc_D (g : bc_GG) : va_G := g.2.2.2.2.2
def bc_A (g : bc_GG) : Nat → Prop := fun q => bc_q0 g ≤ q
def bc_nf (c : Nat) : Nat := (vwCl.getD c ("", TX0, 0)).2.2
def bc_cv (g : bc_GG) (ad : Nat → Nat) : bc_V → Value
  | .inl x => .int (Int32.ofInt x)
  | .inr (.inl x) => .long (Int64.ofInt x)
  | .inr (.inr (sh, r)) => if sh.1 = 7 then .ref (bc_b g) else if sh.1 = 8 then .ref (bc_aK g sh.2) else .ref (ad r.toNat)
def bc_rr (ad : Nat → Nat) (x : Int) : Option Nat := if x < 0 then none else some (ad x.toNat)
def bc_cf (ad : Nat → Nat) (ft : Nat × Nat) (x : Int) : Value := match ft.1 with
  | 10 => .int (Int32.ofInt x)
  | 11 => .long (Int64.ofInt x)
  | 12 => .int (Int32.ofInt x)
  | _ => va_rf (bc_rr ad x)
def bc_ce (g : bc_GG) (ad : Nat → Nat) (sh : Nat × Nat) (f : Int → Int) : va_E := match sh with
  | (0, c) => .inr (c, (List.range (bc_nf c)).map (fun j : Nat => bc_cf ad (bc_ft c j) (f j)))
  | (1, n) => .inl (bc_cA g 0, n, .inl (fun j : Nat => Int32.ofInt (f j)))
  | (2, n) => .inl (bc_cA g 1, n, .inl (fun j : Nat => Int32.ofInt (f j)))
  | (3, n) => .inl (bc_cA g 2, n, .inr (.inl (fun j : Nat => Int64.ofInt (f j))))
  | (4, n) => .inl (bc_cA g 3, n, .inl (fun j : Nat => Int32.ofInt (f j)))
  | (5, n) => .inl (bc_cA g 4, n, .inr (.inr (.inr (.inr (fun j : Nat => if j < n then bc_rr ad (f j) else none)))))
  | (6, n) => .inl (bc_cA g 5, n, .inr (.inr (.inr (.inr (fun j : Nat => if j < n then bc_rr ad (f j) else none)))))
  | _ => .inl (0, 0, .inl (fun _ => 0))
def bc_sh (i : Nat) : Nat × Nat := bc_SH.getD i (99, 0)
def bc_ws (g : bc_GG) (ad : Nat → Nat) (h : bc_H) (np : Nat) : va_W := (List.range np).map (fun i : Nat => (ad i, bc_ce g ad (bc_sh i) (h i)))
def bc_ty (g : bc_GG) : List (ClassId × FieldType) := [(bc_cA g 0, .int), (bc_cA g 1, .byte), (bc_cA g 2, .long), (bc_cA g 3, .boolean), (bc_cA g 4, .object RX2), (bc_cA g 5, .object RX3)]
/-- a value that can be -/
def bc_vo (np : Nat) : bc_V → Prop
  | .inl x => bc_i x
  | .inr (.inl x) => bc_j x
  | .inr (.inr (sh, r)) => (sh.1 = 7) ∨ (sh.1 = 8 ∧ sh.2 < 2) ∨ (sh.1 < 7 ∧ 0 ≤ r ∧ r.toNat < np ∧ bc_sh r.toNat = sh)
def bc_fk (np : Nat) (ft : Nat × Nat) (x : Int) : Prop := match ft.1 with
  | 10 => bc_i x
  | 11 => bc_j x
  | 12 => x = 0 ∨ x = 1
  | _ => ft.1 < 7 ∧ (0 ≤ x → x.toNat < np ∧ bc_sh x.toNat = ft)
def bc_ck (np : Nat) (sh : Nat × Nat) (f : Int → Int) : Prop := match sh with
  | (0, c) => ∀ j : Nat, j < bc_nf c → bc_fk np (bc_ft c j) (f j)
  | (1, n) => ∀ j : Nat, j < n → bc_i (f j)
  | (2, n) => ∀ j : Nat, j < n → -128 ≤ f j ∧ f j < 128
  | (3, n) => ∀ j : Nat, j < n → bc_j (f j)
  | (4, n) => ∀ j : Nat, j < n → f j = 0 ∨ f j = 1
  | (5, n) => ∀ j : Nat, j < n → bc_fk np (0, 2) (f j)
  | (6, n) => ∀ j : Nat, j < n → bc_fk np (0, 3) (f j)
  | _ => False
/-- final fields name what lies where the table says -/
def bc_fin (h : bc_H) (np : Nat) : Prop := ∀ i : Nat, i < np → ∀ c : Nat, bc_sh i = (0, c) → ∀ j : Nat, j < bc_nf c → ∀ o : Int, bc_fo c j = some o → h i j = i + o ∧ 0 ≤ h i j
def bc_R (g : bc_GG) (ph : Bool) (ad : Nat → Nat) (h : bc_H) (np : Nat) (H : Heap) : Prop :=
  va_P (bc_D g) vwCl (bc_ws g ad h np) H ∧ va_D (bc_A g) (bc_ws g ad h np) ∧ (∀ i : Nat, i < np → bc_ck np (bc_sh i) (h i)) ∧ (ph = true → bc_fin h np) ∧ (ph = true → ∀ j : Nat, j < bc_len g → h (-2) j = (bc_xs g j).toInt) ∧ (ph = true → h (-3) 0 = bc_len g)
def bc_lh (g : bc_GG) (ad : Nat → Nat) (np nL : Nat) (lsc : Array Slot) (ls : bc_L) : Prop := lsc.size = nL ∧ lv_wf lsc ∧ ∀ (i : Nat) (v : bc_V), bc_lget ls i = some v → bc_vo np v ∧ lsc[i]? = some (.val (bc_cv g ad v))
theorem bc_ws_get {g : bc_GG} {ad : Nat → Nat} {h : bc_H} {np i : Nat} (hi : i < np) : (bc_ws g ad h np)[i]? = some (ad i, bc_ce g ad (bc_sh i) (h i)) := by
  unfold bc_ws
  rw [List.getElem?_map, List.getElem?_range hi]
  rfl
theorem bc_ws_set {g : bc_GG} {ad : Nat → Nat} {h h' : bc_H} {np r : Nat} (hr : r < np) (hh : ∀ i : Nat, i ≠ r → h' i = h i) : bc_ws g ad h' np = (bc_ws g ad h np).set r (ad r, bc_ce g ad (bc_sh r) (h' r)) := by
  unfold bc_ws
  apply List.ext_getElem?
  intro i
  by_cases hi : i < np
  · rw [List.getElem?_map, List.getElem?_range hi]
    by_cases e : i = r
    · subst e
      rw [List.getElem?_set_self (by simpa using hi)]
      rfl
    · rw [List.getElem?_set_ne (Ne.symm e), List.getElem?_map, List.getElem?_range hi]
      simp [hh i e]
  · rw [List.getElem?_eq_none (by simpa using hi), List.getElem?_eq_none (by simpa using hi)]
theorem bc_upd_ne {h : bc_H} {r j v : Int} {i : Int} (hi : i ≠ r) : bc_upd h r j v i = h i := by
  funext b
  unfold bc_upd
  rw [if_neg (fun q => hi q.1)]
theorem bc_upd_at {h : bc_H} {r j v : Int} (b : Int) : bc_upd h r j v r b = if b = j then v else h r b := by
  unfold bc_upd
  by_cases e : b = j
  · rw [if_pos ⟨rfl, e⟩, if_pos e]
  · rw [if_neg (fun q => e q.2), if_neg e]
theorem bc_blk_ne {h : bc_H} {r1 s1 r2 d2 n : Int} {i : Int} (hi : i ≠ r2) : bc_blk h r1 s1 r2 d2 n i = h i := by
  funext b
  unfold bc_blk
  rw [if_neg (fun q => hi q.1)]
theorem bc_fk_mono {np nq : Nat} (hn : np ≤ nq) {ft : Nat × Nat} {x : Int} (h : bc_fk np ft x) : bc_fk nq ft x := by
  unfold bc_fk at h ⊢
  split at h
  · exact h
  · exact h
  · exact h
  · exact ⟨h.1, fun q => ⟨by have := (h.2 q).1; omega, (h.2 q).2⟩⟩
theorem bc_ck_mono {np nq : Nat} (hn : np ≤ nq) {sh : Nat × Nat} {f : Int → Int} (h : bc_ck np sh f) : bc_ck nq sh f := by
  unfold bc_ck at h ⊢
  split at h
  all_goals first
    | exact fun j hj => bc_fk_mono hn (h j hj)
    | exact h
theorem bc_vo_mono {np nq : Nat} (hn : np ≤ nq) {v : bc_V} (h : bc_vo np v) : bc_vo nq v := by
  rcases v with x | x | ⟨sh, r⟩
  · exact h
  · exact h
  · rcases h with h | h | ⟨h1, h2, h3, h4⟩
    · exact Or.inl h
    · exact Or.inr (Or.inl h)
    · exact Or.inr (Or.inr ⟨h1, h2, by omega, h4⟩)
/-- a row written in a way that keeps its kind -/
theorem bc_R_row {g : bc_GG} {ph : Bool} {ad : Nat → Nat} {h h' : bc_H} {np : Nat} {H H1 : Heap} {r : Nat} (hR : bc_R g ph ad h np H) (hr : r < np) (hh : ∀ i : Int, i ≠ (r : Int) → h' i = h i) (hk : bc_ck np (bc_sh r) (h' r)) (hf : ph = true → ∀ c : Nat, bc_sh r = (0, c) → ∀ j : Nat, j < bc_nf c → ∀ o : Int, bc_fo c j = some o → h' r j = h r j)
    (hP : va_P (bc_D g) vwCl ((bc_ws g ad h np).set r (ad r, bc_ce g ad (bc_sh r) (h' r))) H1) (hD : va_D (bc_A g) ((bc_ws g ad h np).set r (ad r, bc_ce g ad (bc_sh r) (h' r)))) : bc_R g ph ad h' np H1 := by
  obtain ⟨-, -, h3, h4, h5, h6⟩ := hR
  have e : bc_ws g ad h' np = (bc_ws g ad h np).set r (ad r, bc_ce g ad (bc_sh r) (h' r)) := bc_ws_set hr (fun i hi => hh i (by omega))
  refine ⟨e ▸ hP, e ▸ hD, fun i hi => ?_, fun q i hi c hc j hj o ho => ?_, fun q j hj => ?_, fun q => ?_⟩
  · by_cases q : i = r
    · subst q; exact hk
    · rw [hh i (by omega)]; exact h3 i hi
  · by_cases z : i = r
    · subst z; rw [hf q c hc j hj o ho]; exact h4 q i hi c hc j hj o ho
    · rw [hh i (by omega)]; exact h4 q i hi c hc j hj o ho
  · rw [hh (-2) (by omega)]; exact h5 q j hj
  · rw [hh (-3) (by omega)]; exact h6 q
end
section
def bc_sz (sh : Nat × Nat) : Nat := match sh with
  | (0, c) => bc_nf c
  | (_, n) => n
def bc_SZ (np : Nat) : Nat := ((bc_SH.take np).map bc_sz).sum
/-- what lies outside the world: the script, the String constants, statics, links of nest mates, arrays of references -/
def bc_lenS : List Nat := [bc_st0.length, bc_st1.length]
def bc_bytS : List (List Int32) := [bc_st0.map Int32.ofInt, bc_st1.map Int32.ofInt]
def bc_tx0 : String := "lamp odds beast wall of pulls way long visitor self at figure style over follows weight minute lead wake fill any when turned dark loop end stop "
def bc_tx1 : String := " lamp odds beast wall way visitor figure over follows of pulls long self at style weight minute lead wake fill any when loop end stop turned dark "
def bc_X (g : bc_GG) (U : State) (H : Heap) : Prop :=
  va_X (bc_b g) (bc_len g) (bc_xs g) U H ∧ bc_b g < bc_q0 g ∧ bc_q0 g ≤ H.size ∧ bc_len g ≤ 3072 ∧
  vk_S 2 bc_lenS bc_bytS (bc_aK g) (bc_aV g) (bc_A g) U H ∧ vk_R "BeastCave$Text" 29 bc_tx0 (bc_aK g 0) U ∧ vk_R "BeastCaveModel" 211 bc_tx1 (bc_aK g 1) U ∧
  va_Z "java/lang/String" "COMPACT_STRINGS" "Z" (.int 1) (bc_A g) U H ∧ va_Zq "jdk/internal/util/Preconditions" "SIOOBE_FORMATTER" "Ljava/util/function/BiFunction;" (bc_A g) U H ∧
  (∀ q ∈ bc_nest, va_Nw (.methodLinkNest q.1 q.2.1 q.2.2 "BeastCave") U) ∧ va_AO RX2 U ∧ va_AO RX3 U
/-- a method's frame -/
def bc_Cx (g : bc_GG) (p : Program) (s : State) (m : MethodId) (args : Array Value) (meth : Method) (c : Code) (k : Nat) : Prop :=
  p.tables.exec = Jvm.exec ∧ c.code = (bc_mi k).2.2.1 ∧ c.maxLocals = (bc_mi k).2.2.2.1 ∧ s.vm.findClass (bc_mi k).1 = some m.cls ∧ (∀ w ∈ bc_T, w.before args s = true) ∧ ((bc_mi k).2.1.name = "<init>" → meth.name = "<init>") ∧
  va_K (bc_D g) vwCl (bc_ty g) s ∧ bc_X g s s.heap ∧ bc_ckM k = true
/-- sound from a place of a frame on -/
def bc_At (g : bc_GG) (ph : Bool) (p : Program) (l : Launch) (e : Env) (R : Room) (s : State) (m : MethodId) (args : Array Value) (below : List Frame) (meth : Method) (c : Code) (Z : State → Prop) (k nq mc ms n0 : Nat) (ad0 : Nat → Nat) (idx np : Nat) (ls : bc_L) (st : bc_St) (h : bc_H) : Prop :=
  ∀ (cells slots : Nat) (H : Heap) (locs : List Loc) (ad : Nat → Nat) (lsc : Array Slot) (pcb : Nat),
    (np ≤ nq ∧ cells + (nq - np) = mc ∧ slots + (bc_SZ nq - bc_SZ np) = ms) → n0 ≤ np → bc_R g ph ad h np H → va_S (bc_A g) s.heap H locs → bc_lh g ad np (bc_mi k).2.2.2.1 lsc ls → (∀ v ∈ st, bc_vo np v) → (∀ i, i < n0 → ad i = ad0 i) → bc_pc k idx = some pcb →
    W p l e R s m args below meth c H locs cells slots Z (F0 m pcb lsc (st.map (bc_cv g ad)))
theorem bc_rw0 {k idx pcb : Nat} {i : Instr} (hk : bc_ckM k = true) (hi : (bc_code k)[idx]? = some i) (hp : bc_pc k idx = some pcb) : ∃ (j : Instr) (len : Nat) (wi : List Nat), decode (bc_mi k).2.2.1 pcb = .ok (j, len) ∧ bc_rel k pcb (bc_pc k (idx + 1)) wi j len i = true := by
  unfold bc_ckM at hk
  simp only [Bool.and_eq_true] at hk
  have h1 := hk.1.1.1.1.1.1.1.1.1
  unfold bc_pc at hp ⊢
  rw [bc_nth_e] at hp ⊢
  cases hw : (bc_pw k)[idx]? with
  | none => rw [hw] at hp; cases hp
  | some q =>
    obtain ⟨pc, wi⟩ := q
    rw [hw] at hp
    cases hp
    obtain ⟨j, len, h2, h3⟩ := bc_ckL_at _ _ h1 idx i pc wi hi hw
    exact ⟨j, len, wi, h2, h3⟩
/-- rows of one byte that stand alike on both sides -/
def bc_pl (i : Instr) : Prop := ∀ k pc nx wi j len, bc_rel k pc nx wi j len i = (decide (j = i) && decide (len = 1) && decide (nx = some (pc + 1)))
theorem bc_row1 {k idx pcb : Nat} {i : Instr} (hk : bc_ckM k = true) (hi : (bc_code k)[idx]? = some i) (hp : bc_pc k idx = some pcb) (hl : bc_pl i) : decode (bc_mi k).2.2.1 pcb = .ok (i, 1) ∧ bc_pc k (idx + 1) = some (pcb + 1) := by
  obtain ⟨j, len, wi, h1, h2⟩ := bc_rw0 hk hi hp
  rw [hl] at h2
  simp only [Bool.and_eq_true, decide_eq_true_eq] at h2
  obtain ⟨⟨rfl, rfl⟩, h3⟩ := h2
  exact ⟨h1, h3⟩
section BCP
variable {g : bc_GG} {ph : Bool} {p : Program} {l : Launch} {e : Env} {R : Room} {s : State} {m : MethodId} {args : Array Value} {below : List Frame} {meth : Method} {c : Code} {Z : State → Prop} {k nq mc ms n0 : Nat} {ad0 : Nat → Nat} {idx np : Nat} {ls : bc_L} {st : bc_St} {h : bc_H}
/-- an int of two ints -/
theorem bc_ebin (hC : bc_Cx g p s m args meth c k) {i : Instr} (hi : (bc_code k)[idx]? = some i) (hl : bc_pl i) (f : Int → Int → Int) (F : Int32 → Int32 → Int32) {a b : Int} (hf : bc_i a → bc_i b → Int32.ofInt (f a b) = F (Int32.ofInt a) (Int32.ofInt b) ∧ bc_i (f a b))
    (row : ∀ {H : Heap} {locs : List Loc} {cells slots : Nat} {lsc : Array Slot} {pcb : Nat} {rest : List Value}, decode (bc_mi k).2.2.1 pcb = .ok (i, 1) → bc_i a → bc_i b → W p l e R s m args below meth c H locs cells slots Z (F0 m (pcb + 1) lsc (.int (F (Int32.ofInt a) (Int32.ofInt b)) :: rest)) → W p l e R s m args below meth c H locs cells slots Z (F0 m pcb lsc (.int (Int32.ofInt b) :: .int (Int32.ofInt a) :: rest)))
    (hn : bc_At g ph p l e R s m args below meth c Z k nq mc ms n0 ad0 (idx + 1) np ls (.inl (f a b) :: st) h) : bc_At g ph p l e R s m args below meth c Z k nq mc ms n0 ad0 idx np ls (.inl b :: .inl a :: st) h := by
  intro cells slots H locs ad lsc pcb hF h0 hR hS hL hV hA hp
  obtain ⟨hd, hx⟩ := bc_row1 hC.2.2.2.2.2.2.2.2 hi hp hl
  have vb : bc_i b := hV (.inl b) List.mem_cons_self
  have va : bc_i a := hV (.inl a) (List.mem_cons_of_mem _ List.mem_cons_self)
  obtain ⟨q1, q2⟩ := hf va vb
  have kk : W p l e R s m args below meth c H locs cells slots Z (F0 m (pcb + 1) lsc (.int (Int32.ofInt (f a b)) :: st.map (bc_cv g ad))) := hn cells slots H locs ad lsc (pcb + 1) hF h0 hR hS hL (fun v hv => by
    rcases List.mem_cons.mp hv with rfl | hv
    · exact q2
    · exact hV v (List.mem_cons_of_mem _ (List.mem_cons_of_mem _ hv))) hA hx
  rw [q1] at kk
  exact row hd va vb kk
/-- a long of two longs -/
theorem bc_elbin (hC : bc_Cx g p s m args meth c k) {i : Instr} (hi : (bc_code k)[idx]? = some i) (hl : bc_pl i) (f : Int → Int → Int) (F : Int64 → Int64 → Int64) {a b : Int} (hf : bc_j a → bc_j b → Int64.ofInt (f a b) = F (Int64.ofInt a) (Int64.ofInt b) ∧ bc_j (f a b))
    (row : ∀ {H : Heap} {locs : List Loc} {cells slots : Nat} {lsc : Array Slot} {pcb : Nat} {rest : List Value}, decode (bc_mi k).2.2.1 pcb = .ok (i, 1) → bc_j a → bc_j b → W p l e R s m args below meth c H locs cells slots Z (F0 m (pcb + 1) lsc (.long (F (Int64.ofInt a) (Int64.ofInt b)) :: rest)) → W p l e R s m args below meth c H locs cells slots Z (F0 m pcb lsc (.long (Int64.ofInt b) :: .long (Int64.ofInt a) :: rest)))
    (hn : bc_At g ph p l e R s m args below meth c Z k nq mc ms n0 ad0 (idx + 1) np ls (.inr (.inl (f a b)) :: st) h) : bc_At g ph p l e R s m args below meth c Z k nq mc ms n0 ad0 idx np ls (.inr (.inl b) :: .inr (.inl a) :: st) h := by
  intro cells slots H locs ad lsc pcb hF h0 hR hS hL hV hA hp
  obtain ⟨hd, hx⟩ := bc_row1 hC.2.2.2.2.2.2.2.2 hi hp hl
  have vb : bc_j b := hV (.inr (.inl b)) List.mem_cons_self
  have va : bc_j a := hV (.inr (.inl a)) (List.mem_cons_of_mem _ List.mem_cons_self)
  obtain ⟨q1, q2⟩ := hf va vb
  have kk : W p l e R s m args below meth c H locs cells slots Z (F0 m (pcb + 1) lsc (.long (Int64.ofInt (f a b)) :: st.map (bc_cv g ad))) := hn cells slots H locs ad lsc (pcb + 1) hF h0 hR hS hL (fun v hv => by
    rcases List.mem_cons.mp hv with rfl | hv
    · exact q2
    · exact hV v (List.mem_cons_of_mem _ (List.mem_cons_of_mem _ hv))) hA hx
  rw [q1] at kk
  exact row hd va vb kk
/-- a long of a long and an int -/
theorem bc_elsh (hC : bc_Cx g p s m args meth c k) {i : Instr} (hi : (bc_code k)[idx]? = some i) (hl : bc_pl i) (f : Int → Int → Int) (F : Int64 → Int32 → Int64) {a b : Int} (hf : bc_j a → bc_i b → Int64.ofInt (f a b) = F (Int64.ofInt a) (Int32.ofInt b) ∧ bc_j (f a b))
    (row : ∀ {H : Heap} {locs : List Loc} {cells slots : Nat} {lsc : Array Slot} {pcb : Nat} {rest : List Value}, decode (bc_mi k).2.2.1 pcb = .ok (i, 1) → W p l e R s m args below meth c H locs cells slots Z (F0 m (pcb + 1) lsc (.long (F (Int64.ofInt a) (Int32.ofInt b)) :: rest)) → W p l e R s m args below meth c H locs cells slots Z (F0 m pcb lsc (.int (Int32.ofInt b) :: .long (Int64.ofInt a) :: rest)))
    (hn : bc_At g ph p l e R s m args below meth c Z k nq mc ms n0 ad0 (idx + 1) np ls (.inr (.inl (f a b)) :: st) h) : bc_At g ph p l e R s m args below meth c Z k nq mc ms n0 ad0 idx np ls (.inl b :: .inr (.inl a) :: st) h := by
  intro cells slots H locs ad lsc pcb hF h0 hR hS hL hV hA hp
  obtain ⟨hd, hx⟩ := bc_row1 hC.2.2.2.2.2.2.2.2 hi hp hl
  have vb : bc_i b := hV (.inl b) List.mem_cons_self
  have va : bc_j a := hV (.inr (.inl a)) (List.mem_cons_of_mem _ List.mem_cons_self)
  obtain ⟨q1, q2⟩ := hf va vb
  have kk : W p l e R s m args below meth c H locs cells slots Z (F0 m (pcb + 1) lsc (.long (Int64.ofInt (f a b)) :: st.map (bc_cv g ad))) := hn cells slots H locs ad lsc (pcb + 1) hF h0 hR hS hL (fun v hv => by
    rcases List.mem_cons.mp hv with rfl | hv
    · exact q2
    · exact hV v (List.mem_cons_of_mem _ (List.mem_cons_of_mem _ hv))) hA hx
  rw [q1] at kk
  exact row hd kk
/-- one value of one: F of what it is -/
theorem bc_eun (hC : bc_Cx g p s m args meth c k) {i : Instr} (hi : (bc_code k)[idx]? = some i) (hl : bc_pl i) {v w : bc_V} (hw : bc_vo np v → bc_vo np w)
    (row : ∀ {H : Heap} {locs : List Loc} {cells slots : Nat} {lsc : Array Slot} {pcb : Nat} {rest : List Value} {ad : Nat → Nat}, decode (bc_mi k).2.2.1 pcb = .ok (i, 1) → bc_vo np v → W p l e R s m args below meth c H locs cells slots Z (F0 m (pcb + 1) lsc (bc_cv g ad w :: rest)) → W p l e R s m args below meth c H locs cells slots Z (F0 m pcb lsc (bc_cv g ad v :: rest)))
    (hn : bc_At g ph p l e R s m args below meth c Z k nq mc ms n0 ad0 (idx + 1) np ls (w :: st) h) : bc_At g ph p l e R s m args below meth c Z k nq mc ms n0 ad0 idx np ls (v :: st) h := by
  intro cells slots H locs ad lsc pcb hF h0 hR hS hL hV hA hp
  obtain ⟨hd, hx⟩ := bc_row1 hC.2.2.2.2.2.2.2.2 hi hp hl
  have va : bc_vo np v := hV v List.mem_cons_self
  refine row hd va (hn cells slots H locs ad lsc (pcb + 1) hF h0 hR hS hL (fun v hv => ?_) hA hx)
  rcases List.mem_cons.mp hv with rfl | hv
  · exact hw va
  · exact hV v (List.mem_cons_of_mem _ hv)
/-- a new stack of the old one's values, by a row of one byte -/
theorem bc_estk (hC : bc_Cx g p s m args meth c k) {i : Instr} (hi : (bc_code k)[idx]? = some i) (hl : bc_pl i) {st2 : bc_St} (hv2 : ∀ v ∈ st2, v ∈ st)
    (row : ∀ {H : Heap} {locs : List Loc} {cells slots : Nat} {lsc : Array Slot} {pcb : Nat} {ad : Nat → Nat}, decode (bc_mi k).2.2.1 pcb = .ok (i, 1) → (∀ v ∈ st, bc_vo np v) → W p l e R s m args below meth c H locs cells slots Z (F0 m (pcb + 1) lsc (st2.map (bc_cv g ad))) → W p l e R s m args below meth c H locs cells slots Z (F0 m pcb lsc (st.map (bc_cv g ad))))
    (hn : bc_At g ph p l e R s m args below meth c Z k nq mc ms n0 ad0 (idx + 1) np ls st2 h) : bc_At g ph p l e R s m args below meth c Z k nq mc ms n0 ad0 idx np ls st h := by
  intro cells slots H locs ad lsc pcb hF h0 hR hS hL hV hA hp
  obtain ⟨hd, hx⟩ := bc_row1 hC.2.2.2.2.2.2.2.2 hi hp hl
  exact row hd hV (hn cells slots H locs ad lsc (pcb + 1) hF h0 hR hS hL (fun v hv => hV v (hv2 v hv)) hA hx)
end BCP
end
section
theorem bc_catr {g : bc_GG} (ad : Nat → Nat) (x : (Nat × Nat) × Int) : (bc_cv g ad (.inr (.inr x))).category = 1 := by
  obtain ⟨sh, r⟩ := x
  show Value.category (if sh.1 = 7 then Value.ref (bc_b g) else if sh.1 = 8 then Value.ref (bc_aK g sh.2) else Value.ref (ad r.toNat)) = 1
  split
  · rfl
  · split <;> rfl
section BCO
variable {g : bc_GG} {ph : Bool} {p : Program} {l : Launch} {e : Env} {R : Room} {s : State} {m : MethodId} {args : Array Value} {below : List Frame} {meth : Method} {c : Code} {Z : State → Prop} {k nq mc ms n0 : Nat} {ad0 : Nat → Nat} {idx np : Nat} {ls : bc_L} {st : bc_St} {h : bc_H}
theorem bc_o_iadd (hC : bc_Cx g p s m args meth c k) (hi : (bc_code k)[idx]? = some .iadd) (hx : bc_wp (bc_s1 ph .iadd ls st h) (fun ls st h => bc_At g ph p l e R s m args below meth c Z k nq mc ms n0 ad0 (idx + 1) np ls st h)) : bc_At g ph p l e R s m args below meth c Z k nq mc ms n0 ad0 idx np ls st h := by
  simp only [bc_s1] at hx
  split at hx
  · exact bc_ebin hC hi (fun _ _ _ _ _ _ => rfl) (fun a b => bc_w32 (a + b)) (fun x y => x + y) (fun ha hb => ⟨by rw [bc_o32, Int32.ofInt_add], bc_w32_i _⟩) (fun hd _ _ kk => lv_iadd hC.1 hC.2.1 hd kk) hx
  · exact False.elim hx
theorem bc_o_isub (hC : bc_Cx g p s m args meth c k) (hi : (bc_code k)[idx]? = some .isub) (hx : bc_wp (bc_s1 ph .isub ls st h) (fun ls st h => bc_At g ph p l e R s m args below meth c Z k nq mc ms n0 ad0 (idx + 1) np ls st h)) : bc_At g ph p l e R s m args below meth c Z k nq mc ms n0 ad0 idx np ls st h := by
  simp only [bc_s1] at hx
  split at hx
  · exact bc_ebin hC hi (fun _ _ _ _ _ _ => rfl) (fun a b => bc_w32 (a - b)) (fun x y => x - y) (fun ha hb => ⟨by rw [bc_o32, Int32.ofInt_sub], bc_w32_i _⟩) (fun hd _ _ kk => lv_isub hC.1 hC.2.1 hd kk) hx
  · exact False.elim hx
theorem bc_o_imul (hC : bc_Cx g p s m args meth c k) (hi : (bc_code k)[idx]? = some .imul) (hx : bc_wp (bc_s1 ph .imul ls st h) (fun ls st h => bc_At g ph p l e R s m args below meth c Z k nq mc ms n0 ad0 (idx + 1) np ls st h)) : bc_At g ph p l e R s m args below meth c Z k nq mc ms n0 ad0 idx np ls st h := by
  simp only [bc_s1] at hx
  split at hx
  · exact bc_ebin hC hi (fun _ _ _ _ _ _ => rfl) (fun a b => bc_w32 (a * b)) (fun x y => x * y) (fun ha hb => ⟨by rw [bc_o32, Int32.ofInt_mul], bc_w32_i _⟩) (fun hd _ _ kk => lv_imul hC.1 hC.2.1 hd kk) hx
  · exact False.elim hx
theorem bc_o_iand (hC : bc_Cx g p s m args meth c k) (hi : (bc_code k)[idx]? = some .iand) (hx : bc_wp (bc_s1 ph .iand ls st h) (fun ls st h => bc_At g ph p l e R s m args below meth c Z k nq mc ms n0 ad0 (idx + 1) np ls st h)) : bc_At g ph p l e R s m args below meth c Z k nq mc ms n0 ad0 idx np ls st h := by
  simp only [bc_s1] at hx
  split at hx
  · exact bc_ebin hC hi (fun _ _ _ _ _ _ => rfl) (fun a b => bc_and a b) (fun x y => x &&& y) (fun ha hb => ⟨by unfold bc_and; rw [Int32.ofInt_toInt], bc_ri _⟩) (fun hd _ _ kk => lv_iand hC.1 hC.2.1 hd kk) hx
  · exact False.elim hx
theorem bc_o_ior (hC : bc_Cx g p s m args meth c k) (hi : (bc_code k)[idx]? = some .ior) (hx : bc_wp (bc_s1 ph .ior ls st h) (fun ls st h => bc_At g ph p l e R s m args below meth c Z k nq mc ms n0 ad0 (idx + 1) np ls st h)) : bc_At g ph p l e R s m args below meth c Z k nq mc ms n0 ad0 idx np ls st h := by
  simp only [bc_s1] at hx
  split at hx
  · exact bc_ebin hC hi (fun _ _ _ _ _ _ => rfl) (fun a b => bc_or a b) (fun x y => x ||| y) (fun ha hb => ⟨by unfold bc_or; rw [Int32.ofInt_toInt], bc_ri _⟩) (fun hd _ _ kk => lv_ior hC.1 hC.2.1 hd kk) hx
  · exact False.elim hx
theorem bc_o_ixor (hC : bc_Cx g p s m args meth c k) (hi : (bc_code k)[idx]? = some .ixor) (hx : bc_wp (bc_s1 ph .ixor ls st h) (fun ls st h => bc_At g ph p l e R s m args below meth c Z k nq mc ms n0 ad0 (idx + 1) np ls st h)) : bc_At g ph p l e R s m args below meth c Z k nq mc ms n0 ad0 idx np ls st h := by
  simp only [bc_s1] at hx
  split at hx
  · exact bc_ebin hC hi (fun _ _ _ _ _ _ => rfl) (fun a b => bc_xor a b) (fun x y => x ^^^ y) (fun ha hb => ⟨by unfold bc_xor; rw [Int32.ofInt_toInt], bc_ri _⟩) (fun hd _ _ kk => lv_ixor hC.1 hC.2.1 hd kk) hx
  · exact False.elim hx
theorem bc_o_ishl (hC : bc_Cx g p s m args meth c k) (hi : (bc_code k)[idx]? = some .ishl) (hx : bc_wp (bc_s1 ph .ishl ls st h) (fun ls st h => bc_At g ph p l e R s m args below meth c Z k nq mc ms n0 ad0 (idx + 1) np ls st h)) : bc_At g ph p l e R s m args below meth c Z k nq mc ms n0 ad0 idx np ls st h := by
  simp only [bc_s1] at hx
  split at hx
  · exact bc_ebin hC hi (fun _ _ _ _ _ _ => rfl) (fun a b => bc_shl a b) (fun x y => x <<< (y &&& 31)) (fun ha hb => ⟨by unfold bc_shl; rw [Int32.ofInt_toInt], bc_ri _⟩) (fun hd _ _ kk => lv_ishl hC.1 hC.2.1 hd kk) hx
  · exact False.elim hx
theorem bc_o_ishr (hC : bc_Cx g p s m args meth c k) (hi : (bc_code k)[idx]? = some .ishr) (hx : bc_wp (bc_s1 ph .ishr ls st h) (fun ls st h => bc_At g ph p l e R s m args below meth c Z k nq mc ms n0 ad0 (idx + 1) np ls st h)) : bc_At g ph p l e R s m args below meth c Z k nq mc ms n0 ad0 idx np ls st h := by
  simp only [bc_s1] at hx
  split at hx
  · exact bc_ebin hC hi (fun _ _ _ _ _ _ => rfl) (fun a b => bc_shr a b) (fun x y => x >>> (y &&& 31)) (fun ha hb => ⟨by unfold bc_shr; rw [Int32.ofInt_toInt], bc_ri _⟩) (fun hd _ _ kk => lv_ishr hC.1 hC.2.1 hd kk) hx
  · exact False.elim hx
theorem bc_o_iushr (hC : bc_Cx g p s m args meth c k) (hi : (bc_code k)[idx]? = some .iushr) (hx : bc_wp (bc_s1 ph .iushr ls st h) (fun ls st h => bc_At g ph p l e R s m args below meth c Z k nq mc ms n0 ad0 (idx + 1) np ls st h)) : bc_At g ph p l e R s m args below meth c Z k nq mc ms n0 ad0 idx np ls st h := by
  simp only [bc_s1] at hx
  split at hx
  · exact bc_ebin hC hi (fun _ _ _ _ _ _ => rfl) (fun a b => bc_ushr a b) (fun x y => (x.toUInt32 >>> (y.toUInt32 &&& Int32.toUInt32 31)).toInt32) (fun ha hb => ⟨by unfold bc_ushr; rw [Int32.ofInt_toInt], bc_ri _⟩) (fun hd _ _ kk => lv_iushr hC.1 hC.2.1 hd rfl kk) hx
  · exact False.elim hx
theorem bc_o_idiv (hC : bc_Cx g p s m args meth c k) (hi : (bc_code k)[idx]? = some .idiv) (hx : bc_wp (bc_s1 ph .idiv ls st h) (fun ls st h => bc_At g ph p l e R s m args below meth c Z k nq mc ms n0 ad0 (idx + 1) np ls st h)) : bc_At g ph p l e R s m args below meth c Z k nq mc ms n0 ad0 idx np ls st h := by
  simp only [bc_s1] at hx
  split at hx
  · exact bc_ebin hC hi (fun _ _ _ _ _ _ => rfl) (fun a b => bc_w32 (a.tdiv b)) (fun x y => x / y) (fun ha hb => ⟨bc_tdiv ha hb, bc_w32_i _⟩) (fun hd _ hb kk => lv_idiv hC.1 hC.2.1 hd (fun q => hx.1 ((bc_eqi hb ⟨by decide, by decide⟩).mp q)) kk) hx.2
  · exact False.elim hx
theorem bc_o_irem (hC : bc_Cx g p s m args meth c k) (hi : (bc_code k)[idx]? = some .irem) (hx : bc_wp (bc_s1 ph .irem ls st h) (fun ls st h => bc_At g ph p l e R s m args below meth c Z k nq mc ms n0 ad0 (idx + 1) np ls st h)) : bc_At g ph p l e R s m args below meth c Z k nq mc ms n0 ad0 idx np ls st h := by
  simp only [bc_s1] at hx
  split at hx
  · exact bc_ebin hC hi (fun _ _ _ _ _ _ => rfl) (fun a b => a.tmod b) (fun x y => x - x / y * y) (fun ha hb => ⟨bc_tmod ha hb, bc_tmod_i ha hx.1⟩) (fun hd _ hb kk => lv_irem hC.1 hC.2.1 hd (fun q => hx.1 ((bc_eqi hb ⟨by decide, by decide⟩).mp q)) kk) hx.2
  · exact False.elim hx
theorem bc_o_ladd (hC : bc_Cx g p s m args meth c k) (hi : (bc_code k)[idx]? = some .ladd) (hx : bc_wp (bc_s1 ph .ladd ls st h) (fun ls st h => bc_At g ph p l e R s m args below meth c Z k nq mc ms n0 ad0 (idx + 1) np ls st h)) : bc_At g ph p l e R s m args below meth c Z k nq mc ms n0 ad0 idx np ls st h := by
  simp only [bc_s1] at hx
  split at hx
  · exact bc_elbin hC hi (fun _ _ _ _ _ _ => rfl) (fun a b => bc_w64 (a + b)) (fun x y => x + y) (fun ha hb => ⟨by rw [bc_o64, Int64.ofInt_add], bc_w64_j _⟩) (fun hd _ _ kk => lv_ladd hC.1 hC.2.1 hd kk) hx
  · exact False.elim hx
theorem bc_o_lsub (hC : bc_Cx g p s m args meth c k) (hi : (bc_code k)[idx]? = some .lsub) (hx : bc_wp (bc_s1 ph .lsub ls st h) (fun ls st h => bc_At g ph p l e R s m args below meth c Z k nq mc ms n0 ad0 (idx + 1) np ls st h)) : bc_At g ph p l e R s m args below meth c Z k nq mc ms n0 ad0 idx np ls st h := by
  simp only [bc_s1] at hx
  split at hx
  · exact bc_elbin hC hi (fun _ _ _ _ _ _ => rfl) (fun a b => bc_w64 (a - b)) (fun x y => x - y) (fun ha hb => ⟨by rw [bc_o64, Int64.ofInt_sub], bc_w64_j _⟩) (fun hd _ _ kk => lv_lsub hC.1 hC.2.1 hd kk) hx
  · exact False.elim hx
theorem bc_o_lmul (hC : bc_Cx g p s m args meth c k) (hi : (bc_code k)[idx]? = some .lmul) (hx : bc_wp (bc_s1 ph .lmul ls st h) (fun ls st h => bc_At g ph p l e R s m args below meth c Z k nq mc ms n0 ad0 (idx + 1) np ls st h)) : bc_At g ph p l e R s m args below meth c Z k nq mc ms n0 ad0 idx np ls st h := by
  simp only [bc_s1] at hx
  split at hx
  · exact bc_elbin hC hi (fun _ _ _ _ _ _ => rfl) (fun a b => bc_w64 (a * b)) (fun x y => x * y) (fun ha hb => ⟨by rw [bc_o64, Int64.ofInt_mul], bc_w64_j _⟩) (fun hd _ _ kk => lv_lmul hC.1 hC.2.1 hd kk) hx
  · exact False.elim hx
theorem bc_o_land (hC : bc_Cx g p s m args meth c k) (hi : (bc_code k)[idx]? = some .land) (hx : bc_wp (bc_s1 ph .land ls st h) (fun ls st h => bc_At g ph p l e R s m args below meth c Z k nq mc ms n0 ad0 (idx + 1) np ls st h)) : bc_At g ph p l e R s m args below meth c Z k nq mc ms n0 ad0 idx np ls st h := by
  simp only [bc_s1] at hx
  split at hx
  · exact bc_elbin hC hi (fun _ _ _ _ _ _ => rfl) (fun a b => bc_landL a b) (fun x y => x &&& y) (fun ha hb => ⟨by unfold bc_landL; rw [Int64.ofInt_toInt], bc_rj _⟩) (fun hd _ _ kk => lv_land hC.1 hC.2.1 hd kk) hx
  · exact False.elim hx
theorem bc_o_lor (hC : bc_Cx g p s m args meth c k) (hi : (bc_code k)[idx]? = some .lor) (hx : bc_wp (bc_s1 ph .lor ls st h) (fun ls st h => bc_At g ph p l e R s m args below meth c Z k nq mc ms n0 ad0 (idx + 1) np ls st h)) : bc_At g ph p l e R s m args below meth c Z k nq mc ms n0 ad0 idx np ls st h := by
  simp only [bc_s1] at hx
  split at hx
  · exact bc_elbin hC hi (fun _ _ _ _ _ _ => rfl) (fun a b => bc_lorL a b) (fun x y => x ||| y) (fun ha hb => ⟨by unfold bc_lorL; rw [Int64.ofInt_toInt], bc_rj _⟩) (fun hd _ _ kk => lv_lor hC.1 hC.2.1 hd kk) hx
  · exact False.elim hx
theorem bc_o_ldiv (hC : bc_Cx g p s m args meth c k) (hi : (bc_code k)[idx]? = some .ldiv) (hx : bc_wp (bc_s1 ph .ldiv ls st h) (fun ls st h => bc_At g ph p l e R s m args below meth c Z k nq mc ms n0 ad0 (idx + 1) np ls st h)) : bc_At g ph p l e R s m args below meth c Z k nq mc ms n0 ad0 idx np ls st h := by
  simp only [bc_s1] at hx
  split at hx
  · exact bc_elbin hC hi (fun _ _ _ _ _ _ => rfl) (fun a b => bc_w64 (a.tdiv b)) (fun x y => x / y) (fun ha hb => ⟨bc_ldiv ha hb, bc_w64_j _⟩) (fun hd _ hb kk => lv_ldiv hC.1 hC.2.1 hd (fun q => hx.1 (by have q1 := congrArg Int64.toInt q; rw [bc_tj hb] at q1; exact q1)) kk) hx.2
  · exact False.elim hx
theorem bc_o_lrem (hC : bc_Cx g p s m args meth c k) (hi : (bc_code k)[idx]? = some .lrem) (hx : bc_wp (bc_s1 ph .lrem ls st h) (fun ls st h => bc_At g ph p l e R s m args below meth c Z k nq mc ms n0 ad0 (idx + 1) np ls st h)) : bc_At g ph p l e R s m args below meth c Z k nq mc ms n0 ad0 idx np ls st h := by
  simp only [bc_s1] at hx
  split at hx
  · exact bc_elbin hC hi (fun _ _ _ _ _ _ => rfl) (fun a b => a.tmod b) (fun x y => x - x / y * y) (fun ha hb => ⟨bc_lmod ha hb, bc_lmod_j ha hx.1⟩) (fun hd _ hb kk => lv_lrem hC.1 hC.2.1 hd (fun q => hx.1 (by have q1 := congrArg Int64.toInt q; rw [bc_tj hb] at q1; exact q1)) kk) hx.2
  · exact False.elim hx
theorem bc_o_lshl (hC : bc_Cx g p s m args meth c k) (hi : (bc_code k)[idx]? = some .lshl) (hx : bc_wp (bc_s1 ph .lshl ls st h) (fun ls st h => bc_At g ph p l e R s m args below meth c Z k nq mc ms n0 ad0 (idx + 1) np ls st h)) : bc_At g ph p l e R s m args below meth c Z k nq mc ms n0 ad0 idx np ls st h := by
  simp only [bc_s1] at hx
  split at hx
  · exact bc_elsh hC hi (fun _ _ _ _ _ _ => rfl) (fun a b => bc_lshl a b) (fun x y => x <<< (y.toInt64 &&& 63)) (fun ha hb => ⟨by unfold bc_lshl; rw [Int64.ofInt_toInt], bc_rj _⟩) (fun hd kk => lv_lshl hC.1 hC.2.1 hd rfl kk) hx
  · exact False.elim hx
theorem bc_o_lshr (hC : bc_Cx g p s m args meth c k) (hi : (bc_code k)[idx]? = some .lshr) (hx : bc_wp (bc_s1 ph .lshr ls st h) (fun ls st h => bc_At g ph p l e R s m args below meth c Z k nq mc ms n0 ad0 (idx + 1) np ls st h)) : bc_At g ph p l e R s m args below meth c Z k nq mc ms n0 ad0 idx np ls st h := by
  simp only [bc_s1] at hx
  split at hx
  · exact bc_elsh hC hi (fun _ _ _ _ _ _ => rfl) (fun a b => bc_lshr a b) (fun x y => x >>> (y.toInt64 &&& 63)) (fun ha hb => ⟨by unfold bc_lshr; rw [Int64.ofInt_toInt], bc_rj _⟩) (fun hd kk => lv_lshr hC.1 hC.2.1 hd rfl kk) hx
  · exact False.elim hx
theorem bc_o_lushr (hC : bc_Cx g p s m args meth c k) (hi : (bc_code k)[idx]? = some .lushr) (hx : bc_wp (bc_s1 ph .lushr ls st h) (fun ls st h => bc_At g ph p l e R s m args below meth c Z k nq mc ms n0 ad0 (idx + 1) np ls st h)) : bc_At g ph p l e R s m args below meth c Z k nq mc ms n0 ad0 idx np ls st h := by
  simp only [bc_s1] at hx
  split at hx
  · exact bc_elsh hC hi (fun _ _ _ _ _ _ => rfl) (fun a b => bc_lushr a b) (fun x y => (x.toUInt64 >>> (y.toInt64.toUInt64 &&& Int64.toUInt64 63)).toInt64) (fun ha hb => ⟨by unfold bc_lushr; rw [Int64.ofInt_toInt], bc_rj _⟩) (fun hd kk => lv_lushr hC.1 hC.2.1 hd rfl kk) hx
  · exact False.elim hx
theorem bc_o_ineg (hC : bc_Cx g p s m args meth c k) (hi : (bc_code k)[idx]? = some .ineg) (hx : bc_wp (bc_s1 ph .ineg ls st h) (fun ls st h => bc_At g ph p l e R s m args below meth c Z k nq mc ms n0 ad0 (idx + 1) np ls st h)) : bc_At g ph p l e R s m args below meth c Z k nq mc ms n0 ad0 idx np ls st h := by
  simp only [bc_s1] at hx
  split at hx
  · rename_i a _
    exact bc_eun (v := .inl a) (w := .inl (bc_w32 (-a))) hC hi (fun _ _ _ _ _ _ => rfl) (fun ha => bc_w32_i _) (fun hd ha kk => lv_ineg hC.1 hC.2.1 hd (by rw [← Int32.ofInt_neg, ← bc_o32]; exact kk)) hx
  · exact False.elim hx
theorem bc_o_i2l (hC : bc_Cx g p s m args meth c k) (hi : (bc_code k)[idx]? = some .i2l) (hx : bc_wp (bc_s1 ph .i2l ls st h) (fun ls st h => bc_At g ph p l e R s m args below meth c Z k nq mc ms n0 ad0 (idx + 1) np ls st h)) : bc_At g ph p l e R s m args below meth c Z k nq mc ms n0 ad0 idx np ls st h := by
  simp only [bc_s1] at hx
  split at hx
  · rename_i a _
    exact bc_eun (v := .inl a) (w := .inr (.inl a)) hC hi (fun _ _ _ _ _ _ => rfl) (fun ha => (show bc_j a from ⟨by have := ha.1; omega, by have := ha.2; omega⟩)) (fun hd ha kk => lv_i2l hC.1 hC.2.1 hd (bc_i2l ha) kk) hx
  · exact False.elim hx
theorem bc_o_l2i (hC : bc_Cx g p s m args meth c k) (hi : (bc_code k)[idx]? = some .l2i) (hx : bc_wp (bc_s1 ph .l2i ls st h) (fun ls st h => bc_At g ph p l e R s m args below meth c Z k nq mc ms n0 ad0 (idx + 1) np ls st h)) : bc_At g ph p l e R s m args below meth c Z k nq mc ms n0 ad0 idx np ls st h := by
  simp only [bc_s1] at hx
  split at hx
  · rename_i a _
    exact bc_eun (v := .inr (.inl a)) (w := .inl (bc_w32 a)) hC hi (fun _ _ _ _ _ _ => rfl) (fun ha => bc_w32_i _) (fun hd ha kk => lv_l2i hC.1 hC.2.1 hd (bc_l2i a) kk) hx
  · exact False.elim hx
theorem bc_o_i2b (hC : bc_Cx g p s m args meth c k) (hi : (bc_code k)[idx]? = some .i2b) (hx : bc_wp (bc_s1 ph .i2b ls st h) (fun ls st h => bc_At g ph p l e R s m args below meth c Z k nq mc ms n0 ad0 (idx + 1) np ls st h)) : bc_At g ph p l e R s m args below meth c Z k nq mc ms n0 ad0 idx np ls st h := by
  simp only [bc_s1] at hx
  split at hx
  · rename_i a _
    exact bc_eun (v := .inl a) (w := .inl (bc_w8 a)) hC hi (fun _ _ _ _ _ _ => rfl) (fun ha => bc_w8_i _) (fun hd ha kk => lv_i2b hC.1 hC.2.1 hd (bc_i2b ha) kk) hx
  · exact False.elim hx
theorem bc_o_i2s (hC : bc_Cx g p s m args meth c k) (hi : (bc_code k)[idx]? = some .i2s) (hx : bc_wp (bc_s1 ph .i2s ls st h) (fun ls st h => bc_At g ph p l e R s m args below meth c Z k nq mc ms n0 ad0 (idx + 1) np ls st h)) : bc_At g ph p l e R s m args below meth c Z k nq mc ms n0 ad0 idx np ls st h := by
  simp only [bc_s1] at hx
  split at hx
  · rename_i a _
    exact bc_eun (v := .inl a) (w := .inl (bc_w16 a)) hC hi (fun _ _ _ _ _ _ => rfl) (fun ha => bc_w16_i _) (fun hd ha kk => lv_i2s hC.1 hC.2.1 hd (bc_i2s ha) kk) hx
  · exact False.elim hx
theorem bc_o_lcmp (hC : bc_Cx g p s m args meth c k) (hi : (bc_code k)[idx]? = some .lcmp) (hx : bc_wp (bc_s1 ph .lcmp ls st h) (fun ls st h => bc_At g ph p l e R s m args below meth c Z k nq mc ms n0 ad0 (idx + 1) np ls st h)) : bc_At g ph p l e R s m args below meth c Z k nq mc ms n0 ad0 idx np ls st h := by
  simp only [bc_s1] at hx
  split at hx
  · rename_i b a st
    intro cells slots H locs ad lsc pcb hF h0 hR hS hL hV hA hp
    obtain ⟨hd, hx1⟩ := bc_row1 hC.2.2.2.2.2.2.2.2 hi hp (fun _ _ _ _ _ _ => rfl)
    have vb : bc_j b := hV (.inr (.inl b)) List.mem_cons_self
    have va : bc_j a := hV (.inr (.inl a)) (List.mem_cons_of_mem _ List.mem_cons_self)
    have kk : W p l e R s m args below meth c H locs cells slots Z (F0 m (pcb + 1) lsc (.int (Int32.ofInt (bc_lcmp a b)) :: st.map (bc_cv g ad))) := hx cells slots H locs ad lsc (pcb + 1) hF h0 hR hS hL (fun v hv => by
      rcases List.mem_cons.mp hv with rfl | hv
      · exact bc_lc_i a b
      · exact hV v (List.mem_cons_of_mem _ (List.mem_cons_of_mem _ hv))) hA hx1
    rw [← bc_lc va vb] at kk
    exact W.lcmp hC.1 hC.2.1 hd kk
  · exact False.elim hx
theorem bc_o_dup (hC : bc_Cx g p s m args meth c k) (hi : (bc_code k)[idx]? = some .dup) (hx : bc_wp (bc_s1 ph .dup ls st h) (fun ls st h => bc_At g ph p l e R s m args below meth c Z k nq mc ms n0 ad0 (idx + 1) np ls st h)) : bc_At g ph p l e R s m args below meth c Z k nq mc ms n0 ad0 idx np ls st h := by
  simp only [bc_s1] at hx
  split at hx
  · refine bc_estk hC hi (fun _ _ _ _ _ _ => rfl) ?_ ?_ hx
    · intro v hv
      simp only [List.mem_cons] at hv ⊢
      grind
    · exact fun hd hV kk => lv_dup hC.1 hC.2.1 hd rfl kk
  · refine bc_estk hC hi (fun _ _ _ _ _ _ => rfl) ?_ ?_ hx
    · intro v hv
      simp only [List.mem_cons] at hv ⊢
      grind
    · exact fun hd hV kk => lv_dup hC.1 hC.2.1 hd (bc_catr _ _) kk
  · exact False.elim hx
theorem bc_o_dup2 (hC : bc_Cx g p s m args meth c k) (hi : (bc_code k)[idx]? = some .dup2) (hx : bc_wp (bc_s1 ph .dup2 ls st h) (fun ls st h => bc_At g ph p l e R s m args below meth c Z k nq mc ms n0 ad0 (idx + 1) np ls st h)) : bc_At g ph p l e R s m args below meth c Z k nq mc ms n0 ad0 idx np ls st h := by
  simp only [bc_s1] at hx
  split at hx
  · refine bc_estk hC hi (fun _ _ _ _ _ _ => rfl) ?_ ?_ hx
    · intro v hv
      simp only [List.mem_cons] at hv ⊢
      grind
    · exact fun hd hV kk => lv_dup2_11 hC.1 hC.2.1 hd rfl (bc_catr _ _) kk
  · refine bc_estk hC hi (fun _ _ _ _ _ _ => rfl) ?_ ?_ hx
    · intro v hv
      simp only [List.mem_cons] at hv ⊢
      grind
    · exact fun hd hV kk => lv_dup2_2 hC.1 hC.2.1 hd rfl kk
  · exact False.elim hx
theorem bc_o_pop (hC : bc_Cx g p s m args meth c k) (hi : (bc_code k)[idx]? = some .pop) (hx : bc_wp (bc_s1 ph .pop ls st h) (fun ls st h => bc_At g ph p l e R s m args below meth c Z k nq mc ms n0 ad0 (idx + 1) np ls st h)) : bc_At g ph p l e R s m args below meth c Z k nq mc ms n0 ad0 idx np ls st h := by
  simp only [bc_s1] at hx
  split at hx
  · refine bc_estk hC hi (fun _ _ _ _ _ _ => rfl) ?_ ?_ hx
    · intro v hv
      simp only [List.mem_cons] at hv ⊢
      grind
    · exact fun hd hV kk => lv_pop hC.1 hC.2.1 hd rfl kk
  · refine bc_estk hC hi (fun _ _ _ _ _ _ => rfl) ?_ ?_ hx
    · intro v hv
      simp only [List.mem_cons] at hv ⊢
      grind
    · exact fun hd hV kk => lv_pop hC.1 hC.2.1 hd (bc_catr _ _) kk
  · exact False.elim hx
end BCO
end
section
/-! locals -/
theorem bc_lget_set (l : bc_L) (i j : Nat) (x : Option bc_V) : bc_lget (bc_lset l i x) j = if j = i then x else bc_lget l j := by
  induction i generalizing l j with
  | zero => cases l <;> cases j <;> simp [bc_lset, bc_lget]
  | succ i ih => cases l <;> cases j <;> simp [bc_lset, bc_lget, ih]
theorem bc_lget_cl {l : bc_L} {n j : Nat} {w : bc_V} (h : bc_lget (bc_cl l n) j = some w) : bc_lget l j = some w ∧ ¬ (j + 1 = n ∧ ∃ x, w = .inr (.inl x)) := by
  cases n with
  | zero => exact ⟨h, by omega⟩
  | succ n =>
    simp only [bc_cl] at h
    split at h
    · rename_i x hx
      rw [bc_lget_set] at h
      by_cases e : j = n
      · rw [if_pos e] at h; cases h
      · rw [if_neg e] at h; exact ⟨h, by omega⟩
    · rename_i hx
      refine ⟨h, fun q => ?_⟩
      obtain ⟨q1, x, rfl⟩ := q
      have e : j = n := by omega
      subst e
      exact hx x h
def bc_lv (g : bc_GG) (ad : Nat → Nat) (nL : Nat) (ls : bc_L) : List (Nat × Value) := (List.range nL).filterMap (fun j => (bc_lget ls j).map (fun w => (j, bc_cv g ad w)))
theorem bc_lv_mem {g : bc_GG} {ad : Nat → Nat} {nL : Nat} {ls : bc_L} {q : Nat × Value} : q ∈ bc_lv g ad nL ls ↔ q.1 < nL ∧ ∃ w, bc_lget ls q.1 = some w ∧ q.2 = bc_cv g ad w := by
  unfold bc_lv
  rw [List.mem_filterMap]
  constructor
  · rintro ⟨j, hj, h⟩
    cases hw : bc_lget ls j with
    | none => rw [hw] at h; cases h
    | some w =>
      rw [hw] at h
      cases h
      exact ⟨List.mem_range.mp hj, w, hw, rfl⟩
  · rintro ⟨h1, w, h2, h3⟩
    refine ⟨q.1, List.mem_range.mpr h1, ?_⟩
    rw [h2]
    show some (q.1, bc_cv g ad w) = some q
    rw [← h3]
theorem bc_lh_has {g : bc_GG} {ad : Nat → Nat} {np nL : Nat} {lsc : Array Slot} {ls : bc_L} (h : bc_lh g ad np nL lsc ls) : lv_has lsc nL (bc_lv g ad nL ls) := by
  refine ⟨h.1, h.2.1, fun q hq => ?_⟩
  obtain ⟨-, w, h2, h3⟩ := bc_lv_mem.mp hq
  rw [h3]
  exact (h.2.2 _ _ h2).2
theorem bc_lh_lt {g : bc_GG} {ad : Nat → Nat} {np nL : Nat} {lsc : Array Slot} {ls : bc_L} (h : bc_lh g ad np nL lsc ls) {j : Nat} {w : bc_V} (hw : bc_lget ls j = some w) : j < nL := by
  have := (Array.getElem?_eq_some_iff.mp (h.2.2 _ _ hw).2).1
  rw [h.1] at this
  exact this
theorem bc_cv_cat2 {g : bc_GG} {ad : Nat → Nat} {w : bc_V} (h : (bc_cv g ad w).category = 2) : ∃ x, w = .inr (.inl x) := by
  rcases w with x | x | x
  · cases h
  · exact ⟨x, rfl⟩
  · rw [bc_catr] at h; cases h
theorem bc_lh_sto {g : bc_GG} {ad : Nat → Nat} {np nL : Nat} {lsc ls1 : Array Slot} {ls : bc_L} {i : Nat} {v : bc_V} (h : bc_lh g ad np nL lsc ls) (hv : bc_vo np v)
    (h1 : lv_has ls1 nL ((i, bc_cv g ad v) :: (bc_lv g ad nL ls).filter (fun q => !(q.1 == i) && !(q.1 + 1 == i && q.2.category == 2)))) : bc_lh g ad np nL ls1 (bc_sto ls i v) := by
  refine ⟨h1.1, h1.2.1, fun j w hw => ?_⟩
  unfold bc_sto at hw
  rw [bc_lget_set] at hw
  by_cases e : j = i
  · rw [if_pos e] at hw
    cases hw
    rw [e]
    exact ⟨hv, h1.2.2 _ List.mem_cons_self⟩
  · rw [if_neg e] at hw
    obtain ⟨h2, h3⟩ := bc_lget_cl hw
    refine ⟨(h.2.2 _ _ h2).1, h1.2.2 (j, bc_cv g ad w) (List.mem_cons_of_mem _ (List.mem_filter.mpr ⟨bc_lv_mem.mpr ⟨bc_lh_lt h h2, w, h2, rfl⟩, ?_⟩))⟩
    simp only [Bool.and_eq_true, Bool.not_eq_true', beq_eq_false_iff_ne, ne_eq, Bool.and_eq_false_iff]
    refine ⟨e, ?_⟩
    by_cases z : j + 1 = i
    · exact Or.inr (fun q => h3 ⟨z, bc_cv_cat2 q⟩)
    · exact Or.inl z
theorem bc_lh_sto2 {g : bc_GG} {ad : Nat → Nat} {np nL : Nat} {lsc ls1 : Array Slot} {ls : bc_L} {i : Nat} {v : bc_V} (h : bc_lh g ad np nL lsc ls) (hv : bc_vo np v)
    (h1 : lv_has ls1 nL ((i, bc_cv g ad v) :: (bc_lv g ad nL ls).filter (fun q => !(q.1 == i) && (!(q.1 == i + 1) && !(q.1 + 1 == i && q.2.category == 2))))) : bc_lh g ad np nL ls1 (bc_sto2 ls i v) := by
  refine ⟨h1.1, h1.2.1, fun j w hw => ?_⟩
  unfold bc_sto2 at hw
  rw [bc_lget_set] at hw
  by_cases e1 : j = i + 1
  · rw [if_pos e1] at hw; cases hw
  · rw [if_neg e1, bc_lget_set] at hw
    by_cases e : j = i
    · rw [if_pos e] at hw
      cases hw
      rw [e]
      exact ⟨hv, h1.2.2 _ List.mem_cons_self⟩
    · rw [if_neg e] at hw
      obtain ⟨h2, h3⟩ := bc_lget_cl hw
      refine ⟨(h.2.2 _ _ h2).1, h1.2.2 (j, bc_cv g ad w) (List.mem_cons_of_mem _ (List.mem_filter.mpr ⟨bc_lv_mem.mpr ⟨bc_lh_lt h h2, w, h2, rfl⟩, ?_⟩))⟩
      simp only [Bool.and_eq_true, Bool.not_eq_true', beq_eq_false_iff_ne, ne_eq, Bool.and_eq_false_iff]
      refine ⟨e, e1, ?_⟩
      by_cases z : j + 1 = i
      · exact Or.inr (fun q => h3 ⟨z, bc_cv_cat2 q⟩)
      · exact Or.inl z
theorem bc_stcons {np : Nat} {st : bc_St} {v : bc_V} (hv : bc_vo np v) (hV : ∀ w ∈ st, bc_vo np w) : ∀ w ∈ v :: st, bc_vo np w := fun w hw => by
  rcases List.mem_cons.mp hw with rfl | hw
  · exact hv
  · exact hV w hw
end
section
theorem bc_cvr (g : bc_GG) (ad : Nat → Nat) (x : (Nat × Nat) × Int) : ∃ y, bc_cv g ad (.inr (.inr x)) = .ref y := by
  obtain ⟨sh, r⟩ := x
  show ∃ y, (if sh.1 = 7 then Value.ref (bc_b g) else if sh.1 = 8 then Value.ref (bc_aK g sh.2) else Value.ref (ad r.toNat)) = .ref y
  split
  · exact ⟨_, rfl⟩
  · split <;> exact ⟨_, rfl⟩
section BCO
variable {g : bc_GG} {ph : Bool} {p : Program} {l : Launch} {e : Env} {R : Room} {s : State} {m : MethodId} {args : Array Value} {below : List Frame} {meth : Method} {c : Code} {Z : State → Prop} {k nq mc ms n0 : Nat} {ad0 : Nat → Nat} {idx np : Nat} {ls : bc_L} {st : bc_St} {h : bc_H}
theorem bc_o_iconst {n : Int} (hC : bc_Cx g p s m args meth c k) (hi : (bc_code k)[idx]? = some (.iconst n)) (hx : bc_wp (bc_s1 ph (.iconst n) ls st h) (fun ls st h => bc_At g ph p l e R s m args below meth c Z k nq mc ms n0 ad0 (idx + 1) np ls st h)) : bc_At g ph p l e R s m args below meth c Z k nq mc ms n0 ad0 idx np ls st h := by
  have hx : bc_At g ph p l e R s m args below meth c Z k nq mc ms n0 ad0 (idx + 1) np ls (.inl n :: st) h := hx
  intro cells slots H locs ad lsc pcb hF h0 hR hS hL hV hA hp
  obtain ⟨j, len, wi, hd, hr⟩ := bc_rw0 hC.2.2.2.2.2.2.2.2 hi hp
  unfold bc_rel at hr
  simp only [Bool.and_eq_true, decide_eq_true_eq] at hr
  obtain ⟨⟨hn, hv⟩, hm⟩ := hr
  have kk : W p l e R s m args below meth c H locs cells slots Z (F0 m (pcb + len) lsc (.int (Int32.ofInt n) :: st.map (bc_cv g ad))) := hx cells slots H locs ad lsc (pcb + len) hF h0 hR hS hL (bc_stcons (v := .inl n) hv hV) hA hn
  split at hm
  · simp only [Bool.and_eq_true, decide_eq_true_eq] at hm
    obtain ⟨rfl, rfl⟩ := hm
    exact lv_iconst hC.1 hC.2.1 hd rfl kk
  · simp only [Bool.and_eq_true, decide_eq_true_eq] at hm
    obtain ⟨q, rfl⟩ := hm
    exact lv_bipush hC.1 hC.2.1 hd q kk
  · simp only [Bool.and_eq_true, decide_eq_true_eq] at hm
    obtain ⟨q, rfl⟩ := hm
    exact lv_sipush hC.1 hC.2.1 hd q kk
  · simp only [Bool.and_eq_true, decide_eq_true_eq] at hm
    obtain ⟨q, rfl⟩ := hm
    exact lv_ldc hC.1 hC.2.1 hC.2.2.2.1 (hC.2.2.2.2.1 _ (bc_wd_in q)) hd kk
  · simp only [Bool.and_eq_true, decide_eq_true_eq] at hm
    obtain ⟨q, rfl⟩ := hm
    exact lv_ldcw hC.1 hC.2.1 hC.2.2.2.1 (hC.2.2.2.2.1 _ (bc_wd_in q)) hd kk
  · cases hm
theorem bc_o_sipush {n : Int} (hC : bc_Cx g p s m args meth c k) (hi : (bc_code k)[idx]? = some (.sipush n)) (hx : bc_wp (bc_s1 ph (.sipush n) ls st h) (fun ls st h => bc_At g ph p l e R s m args below meth c Z k nq mc ms n0 ad0 (idx + 1) np ls st h)) : bc_At g ph p l e R s m args below meth c Z k nq mc ms n0 ad0 idx np ls st h := by
  have hx : bc_At g ph p l e R s m args below meth c Z k nq mc ms n0 ad0 (idx + 1) np ls (.inr (.inl n) :: st) h := hx
  intro cells slots H locs ad lsc pcb hF h0 hR hS hL hV hA hp
  obtain ⟨j, len, wi, hd, hr⟩ := bc_rw0 hC.2.2.2.2.2.2.2.2 hi hp
  unfold bc_rel at hr
  simp only [Bool.and_eq_true, decide_eq_true_eq] at hr
  obtain ⟨⟨hn, hv⟩, hm⟩ := hr
  have kk : W p l e R s m args below meth c H locs cells slots Z (F0 m (pcb + len) lsc (.long (Int64.ofInt n) :: st.map (bc_cv g ad))) := hx cells slots H locs ad lsc (pcb + len) hF h0 hR hS hL (bc_stcons (v := .inr (.inl n)) hv hV) hA hn
  split at hm
  · simp only [Bool.and_eq_true, decide_eq_true_eq] at hm
    obtain ⟨q, rfl⟩ := hm
    exact lv_lconst hC.1 hC.2.1 hd q kk
  · simp only [Bool.and_eq_true, decide_eq_true_eq] at hm
    obtain ⟨q, rfl⟩ := hm
    exact lv_ldc2 hC.1 hC.2.1 hC.2.2.2.1 (hC.2.2.2.2.1 _ (bc_wd_in q)) hd kk
  · cases hm
theorem bc_o_iload {n : Nat} (hC : bc_Cx g p s m args meth c k) (hi : (bc_code k)[idx]? = some (.iload n)) (hx : bc_wp (bc_s1 ph (.iload n) ls st h) (fun ls st h => bc_At g ph p l e R s m args below meth c Z k nq mc ms n0 ad0 (idx + 1) np ls st h)) : bc_At g ph p l e R s m args below meth c Z k nq mc ms n0 ad0 idx np ls st h := by
  simp only [bc_s1] at hx
  split at hx
  · rename_i x hg
    have hx : bc_At g ph p l e R s m args below meth c Z k nq mc ms n0 ad0 (idx + 1) np ls (.inl x :: st) h := hx
    intro cells slots H locs ad lsc pcb hF h0 hR hS hL hV hA hp
    obtain ⟨j, len, wi, hd, hr⟩ := bc_rw0 hC.2.2.2.2.2.2.2.2 hi hp
    unfold bc_rel at hr
    simp only [Bool.and_eq_true, decide_eq_true_eq] at hr
    obtain ⟨hn, hm⟩ := hr
    obtain ⟨hv, hg2⟩ := hL.2.2 _ _ hg
    have kk : W p l e R s m args below meth c H locs cells slots Z (F0 m (pcb + len) lsc (.int (Int32.ofInt x) :: st.map (bc_cv g ad))) := hx cells slots H locs ad lsc (pcb + len) hF h0 hR hS hL (bc_stcons hv hV) hA hn
    split at hm
    · simp only [Bool.and_eq_true, decide_eq_true_eq] at hm
      obtain ⟨rfl, rfl⟩ := hm
      exact lv_iload hC.1 hC.2.1 hd hg2 kk
    · simp only [Bool.and_eq_true, decide_eq_true_eq] at hm
      obtain ⟨q, rfl⟩ := hm
      exact lv_iload_n hC.1 hC.2.1 hd q hg2 kk
    · cases hm
  · exact False.elim hx
theorem bc_o_lload {n : Nat} (hC : bc_Cx g p s m args meth c k) (hi : (bc_code k)[idx]? = some (.lload n)) (hx : bc_wp (bc_s1 ph (.lload n) ls st h) (fun ls st h => bc_At g ph p l e R s m args below meth c Z k nq mc ms n0 ad0 (idx + 1) np ls st h)) : bc_At g ph p l e R s m args below meth c Z k nq mc ms n0 ad0 idx np ls st h := by
  simp only [bc_s1] at hx
  split at hx
  · rename_i x hg
    have hx : bc_At g ph p l e R s m args below meth c Z k nq mc ms n0 ad0 (idx + 1) np ls (.inr (.inl x) :: st) h := hx
    intro cells slots H locs ad lsc pcb hF h0 hR hS hL hV hA hp
    obtain ⟨j, len, wi, hd, hr⟩ := bc_rw0 hC.2.2.2.2.2.2.2.2 hi hp
    unfold bc_rel at hr
    simp only [Bool.and_eq_true, decide_eq_true_eq] at hr
    obtain ⟨hn, hm⟩ := hr
    obtain ⟨hv, hg2⟩ := hL.2.2 _ _ hg
    have kk : W p l e R s m args below meth c H locs cells slots Z (F0 m (pcb + len) lsc (.long (Int64.ofInt x) :: st.map (bc_cv g ad))) := hx cells slots H locs ad lsc (pcb + len) hF h0 hR hS hL (bc_stcons hv hV) hA hn
    split at hm
    · simp only [Bool.and_eq_true, decide_eq_true_eq] at hm
      obtain ⟨rfl, rfl⟩ := hm
      exact lv_lload hC.1 hC.2.1 hd hg2 kk
    · simp only [Bool.and_eq_true, decide_eq_true_eq] at hm
      obtain ⟨q, rfl⟩ := hm
      exact lv_lload_n hC.1 hC.2.1 hd q hg2 kk
    · cases hm
  · exact False.elim hx
theorem bc_o_aload {n : Nat} (hC : bc_Cx g p s m args meth c k) (hi : (bc_code k)[idx]? = some (.aload n)) (hx : bc_wp (bc_s1 ph (.aload n) ls st h) (fun ls st h => bc_At g ph p l e R s m args below meth c Z k nq mc ms n0 ad0 (idx + 1) np ls st h)) : bc_At g ph p l e R s m args below meth c Z k nq mc ms n0 ad0 idx np ls st h := by
  simp only [bc_s1] at hx
  split at hx
  · rename_i x hg
    have hx : bc_At g ph p l e R s m args below meth c Z k nq mc ms n0 ad0 (idx + 1) np ls (.inr (.inr x) :: st) h := hx
    intro cells slots H locs ad lsc pcb hF h0 hR hS hL hV hA hp
    obtain ⟨j, len, wi, hd, hr⟩ := bc_rw0 hC.2.2.2.2.2.2.2.2 hi hp
    unfold bc_rel at hr
    simp only [Bool.and_eq_true, decide_eq_true_eq] at hr
    obtain ⟨hn, hm⟩ := hr
    obtain ⟨hv, hg2⟩ := hL.2.2 _ _ hg
    have kk : W p l e R s m args below meth c H locs cells slots Z (F0 m (pcb + len) lsc (bc_cv g ad (.inr (.inr x)) :: st.map (bc_cv g ad))) := hx cells slots H locs ad lsc (pcb + len) hF h0 hR hS hL (bc_stcons hv hV) hA hn
    obtain ⟨y, hy⟩ := bc_cvr g ad x
    rw [hy] at hg2 kk
    split at hm
    · simp only [Bool.and_eq_true, decide_eq_true_eq] at hm
      obtain ⟨rfl, rfl⟩ := hm
      exact lv_aload hC.1 hC.2.1 hd hg2 kk
    · simp only [Bool.and_eq_true, decide_eq_true_eq] at hm
      obtain ⟨q, rfl⟩ := hm
      exact lv_aload_n hC.1 hC.2.1 hd q hg2 kk
    · cases hm
  · exact False.elim hx
theorem bc_o_istore {n : Nat} (hC : bc_Cx g p s m args meth c k) (hi : (bc_code k)[idx]? = some (.istore n)) (hx : bc_wp (bc_s1 ph (.istore n) ls st h) (fun ls st h => bc_At g ph p l e R s m args below meth c Z k nq mc ms n0 ad0 (idx + 1) np ls st h)) : bc_At g ph p l e R s m args below meth c Z k nq mc ms n0 ad0 idx np ls st h := by
  simp only [bc_s1] at hx
  split at hx
  · rename_i x st
    have hx : bc_At g ph p l e R s m args below meth c Z k nq mc ms n0 ad0 (idx + 1) np (bc_sto ls n (.inl x)) st h := hx
    intro cells slots H locs ad lsc pcb hF h0 hR hS hL hV hA hp
    obtain ⟨j, len, wi, hd, hr⟩ := bc_rw0 hC.2.2.2.2.2.2.2.2 hi hp
    unfold bc_rel at hr
    simp only [Bool.and_eq_true, decide_eq_true_eq] at hr
    obtain ⟨⟨hn, hlt⟩, hm⟩ := hr
    have hv := hV _ List.mem_cons_self
    have kk : ∀ ls1 : Array Slot, lv_has ls1 (bc_mi k).2.2.2.1 ((n, bc_cv g ad (.inl x)) :: (bc_lv g ad (bc_mi k).2.2.2.1 ls).filter (fun q => !(q.1 == n) && !(q.1 + 1 == n && q.2.category == 2))) → W p l e R s m args below meth c H locs cells slots Z (F0 m (pcb + len) ls1 (st.map (bc_cv g ad))) := fun ls1 h1 => hx cells slots H locs ad ls1 (pcb + len) hF h0 hR hS (bc_lh_sto hL hv h1) (fun v hv => hV v (List.mem_cons_of_mem _ hv)) hA hn
    split at hm
    · simp only [Bool.and_eq_true, decide_eq_true_eq] at hm
      obtain ⟨rfl, rfl⟩ := hm
      exact lv_istore hC.1 hC.2.1 hd (bc_lh_has hL) hlt rfl kk
    · simp only [Bool.and_eq_true, decide_eq_true_eq] at hm
      obtain ⟨q, rfl⟩ := hm
      exact lv_istore_n hC.1 hC.2.1 hd q (bc_lh_has hL) hlt rfl kk
    · cases hm
  · exact False.elim hx
theorem bc_o_lstore {n : Nat} (hC : bc_Cx g p s m args meth c k) (hi : (bc_code k)[idx]? = some (.lstore n)) (hx : bc_wp (bc_s1 ph (.lstore n) ls st h) (fun ls st h => bc_At g ph p l e R s m args below meth c Z k nq mc ms n0 ad0 (idx + 1) np ls st h)) : bc_At g ph p l e R s m args below meth c Z k nq mc ms n0 ad0 idx np ls st h := by
  simp only [bc_s1] at hx
  split at hx
  · rename_i x st
    have hx : bc_At g ph p l e R s m args below meth c Z k nq mc ms n0 ad0 (idx + 1) np (bc_sto2 ls n (.inr (.inl x))) st h := hx
    intro cells slots H locs ad lsc pcb hF h0 hR hS hL hV hA hp
    obtain ⟨j, len, wi, hd, hr⟩ := bc_rw0 hC.2.2.2.2.2.2.2.2 hi hp
    unfold bc_rel at hr
    simp only [Bool.and_eq_true, decide_eq_true_eq] at hr
    obtain ⟨⟨hn, hlt⟩, hm⟩ := hr
    have hv := hV _ List.mem_cons_self
    have kk : ∀ ls1 : Array Slot, lv_has ls1 (bc_mi k).2.2.2.1 ((n, bc_cv g ad (.inr (.inl x))) :: (bc_lv g ad (bc_mi k).2.2.2.1 ls).filter (fun q => !(q.1 == n) && (!(q.1 == n + 1) && !(q.1 + 1 == n && q.2.category == 2)))) → W p l e R s m args below meth c H locs cells slots Z (F0 m (pcb + len) ls1 (st.map (bc_cv g ad))) := fun ls1 h1 => hx cells slots H locs ad ls1 (pcb + len) hF h0 hR hS (bc_lh_sto2 hL hv h1) (fun v hv => hV v (List.mem_cons_of_mem _ hv)) hA hn
    split at hm
    · simp only [Bool.and_eq_true, decide_eq_true_eq] at hm
      obtain ⟨rfl, rfl⟩ := hm
      exact lv_lstore hC.1 hC.2.1 hd (bc_lh_has hL) hlt rfl kk
    · simp only [Bool.and_eq_true, decide_eq_true_eq] at hm
      obtain ⟨q, rfl⟩ := hm
      exact lv_lstore_n hC.1 hC.2.1 hd q (bc_lh_has hL) hlt rfl kk
    · cases hm
  · exact False.elim hx
theorem bc_o_astore {n : Nat} (hC : bc_Cx g p s m args meth c k) (hi : (bc_code k)[idx]? = some (.astore n)) (hx : bc_wp (bc_s1 ph (.astore n) ls st h) (fun ls st h => bc_At g ph p l e R s m args below meth c Z k nq mc ms n0 ad0 (idx + 1) np ls st h)) : bc_At g ph p l e R s m args below meth c Z k nq mc ms n0 ad0 idx np ls st h := by
  simp only [bc_s1] at hx
  split at hx
  · rename_i x st
    have hx : bc_At g ph p l e R s m args below meth c Z k nq mc ms n0 ad0 (idx + 1) np (bc_sto ls n (.inr (.inr x))) st h := hx
    intro cells slots H locs ad lsc pcb hF h0 hR hS hL hV hA hp
    obtain ⟨j, len, wi, hd, hr⟩ := bc_rw0 hC.2.2.2.2.2.2.2.2 hi hp
    unfold bc_rel at hr
    simp only [Bool.and_eq_true, decide_eq_true_eq] at hr
    obtain ⟨⟨hn, hlt⟩, hm⟩ := hr
    have hv := hV _ List.mem_cons_self
    have kk : ∀ ls1 : Array Slot, lv_has ls1 (bc_mi k).2.2.2.1 ((n, bc_cv g ad (.inr (.inr x))) :: (bc_lv g ad (bc_mi k).2.2.2.1 ls).filter (fun q => !(q.1 == n) && !(q.1 + 1 == n && q.2.category == 2))) → W p l e R s m args below meth c H locs cells slots Z (F0 m (pcb + len) ls1 (st.map (bc_cv g ad))) := fun ls1 h1 => hx cells slots H locs ad ls1 (pcb + len) hF h0 hR hS (bc_lh_sto hL hv h1) (fun v hv => hV v (List.mem_cons_of_mem _ hv)) hA hn
    obtain ⟨y, hy⟩ := bc_cvr g ad x
    rw [hy] at kk
    split at hm
    · simp only [Bool.and_eq_true, decide_eq_true_eq] at hm
      obtain ⟨rfl, rfl⟩ := hm
      rw [List.map_cons, hy]; exact lv_astore hC.1 hC.2.1 hd (bc_lh_has hL) hlt rfl kk
    · simp only [Bool.and_eq_true, decide_eq_true_eq] at hm
      obtain ⟨q, rfl⟩ := hm
      rw [List.map_cons, hy]; exact lv_astore_n hC.1 hC.2.1 hd q (bc_lh_has hL) hlt rfl kk
    · cases hm
  · exact False.elim hx
theorem bc_o_iinc {n : Nat} {q : Int} (hC : bc_Cx g p s m args meth c k) (hi : (bc_code k)[idx]? = some (.iinc n q)) (hx : bc_wp (bc_s1 ph (.iinc n q) ls st h) (fun ls st h => bc_At g ph p l e R s m args below meth c Z k nq mc ms n0 ad0 (idx + 1) np ls st h)) : bc_At g ph p l e R s m args below meth c Z k nq mc ms n0 ad0 idx np ls st h := by
  simp only [bc_s1] at hx
  split at hx
  · rename_i x hg
    have hx : bc_At g ph p l e R s m args below meth c Z k nq mc ms n0 ad0 (idx + 1) np (bc_sto ls n (.inl (bc_w32 (x + q)))) st h := hx
    intro cells slots H locs ad lsc pcb hF h0 hR hS hL hV hA hp
    obtain ⟨j, len, wi, hd, hr⟩ := bc_rw0 hC.2.2.2.2.2.2.2.2 hi hp
    unfold bc_rel at hr
    simp only [Bool.and_eq_true, decide_eq_true_eq] at hr
    obtain ⟨⟨⟨hn, hlt⟩, rfl⟩, rfl⟩ := hr
    obtain ⟨k1, hk1⟩ := List.getElem?_of_mem (bc_lv_mem.mpr ⟨hlt, _, hg, rfl⟩ : (n, bc_cv g ad (.inl x)) ∈ bc_lv g ad (bc_mi k).2.2.2.1 ls)
    exact lv_iinc (v := Int32.ofInt (bc_w32 (x + q))) hC.1 hC.2.1 hd (bc_lh_has hL) hk1 (by rw [bc_o32, Int32.ofInt_add]) hlt rfl (fun ls1 h1 => hx cells slots H locs ad ls1 (pcb + 3) hF h0 hR hS (bc_lh_sto (v := .inl (bc_w32 (x + q))) hL (bc_w32_i _) h1) hV hA hn)
  · exact False.elim hx
theorem bc_o_ldc {n : Nat} (hC : bc_Cx g p s m args meth c k) (hi : (bc_code k)[idx]? = some (.ldc n)) (hx : bc_wp (bc_s1 ph (.ldc n) ls st h) (fun ls st h => bc_At g ph p l e R s m args below meth c Z k nq mc ms n0 ad0 (idx + 1) np ls st h)) : bc_At g ph p l e R s m args below meth c Z k nq mc ms n0 ad0 idx np ls st h := by
  have hx : bc_At g ph p l e R s m args below meth c Z k nq mc ms n0 ad0 (idx + 1) np ls (.inr (.inr ((8, n), -10)) :: st) h := hx
  intro cells slots H locs ad lsc pcb hF h0 hR hS hL hV hA hp
  obtain ⟨j, len, wi, hd, hr⟩ := bc_rw0 hC.2.2.2.2.2.2.2.2 hi hp
  unfold bc_rel at hr
  simp only [Bool.and_eq_true, decide_eq_true_eq] at hr
  obtain ⟨⟨hn, rfl⟩, hm⟩ := hr
  obtain ⟨-, -, -, -, -, hz0, hz1, -⟩ := hC.2.2.2.2.2.2.2.1
  have hk2 := hC.2.2.2.1
  split at hm
  · simp only [Bool.and_eq_true, decide_eq_true_eq] at hm
    obtain ⟨q, rfl⟩ := hm
    rw [q] at hk2
    exact va_ldcS hC.1 hC.2.1 hk2 hz0 hd (hx cells slots H locs ad lsc (pcb + 2) hF h0 hR hS hL (bc_stcons (Or.inr (Or.inl ⟨rfl, by decide⟩)) hV) hA hn)
  · simp only [Bool.and_eq_true, decide_eq_true_eq] at hm
    obtain ⟨q, rfl⟩ := hm
    rw [q] at hk2
    exact va_ldcS hC.1 hC.2.1 hk2 hz1 hd (hx cells slots H locs ad lsc (pcb + 2) hF h0 hR hS hL (bc_stcons (Or.inr (Or.inl ⟨rfl, by decide⟩)) hV) hA hn)
  · cases hm
end BCO
end
section
/-! classes: what a program knows of each -/
noncomputable def bc_uck : List Nat → List Jvm.Cond → Bool
  | [], [] => true
  | q :: qs, w :: ws => (match bc_lk q with | some v => decide (v = w) | none => false) && goodWord w && bc_uck qs ws
  | _, _ => false
theorem bc_uin : ∀ (qs : List Nat) {ws : List Jvm.Cond}, bc_uck qs ws = true → ∀ w ∈ ws, w ∈ bc_T
  | [], [], _, w, hw => absurd hw List.not_mem_nil
  | [], _ :: _, h, _, _ => by cases h
  | _ :: _, [], h, _, _ => by cases h
  | q :: qs, v :: ws, h, w, hw => by
    unfold bc_uck at h
    simp only [Bool.and_eq_true] at h
    rcases List.mem_cons.mp hw with rfl | hw
    · have h1 := h.1.1
      split at h1
      · rename_i u hu
        rw [decide_eq_true_eq] at h1
        subst h1
        exact List.mem_filter.mpr ⟨bc_lk_in hu, h.1.2⟩
      · cases h1
    · exact bc_uin qs h.2 w hw
def bc_isR : FieldType → Bool
  | .object _ => true
  | .array _ => true
  | _ => false
theorem bc_isR_ok {ty : FieldType} (h : bc_isR ty = true) (a : Nat) : narrow ty (.ref a) = .ref a ∧ fits ty (.ref a) = true := by
  cases ty <;> first | exact ⟨rfl, rfl⟩ | cases h
def bc_kin (ft : Nat × Nat) (ty : FieldType) (fo : Option Int) : Bool := match ft.1 with
  | 10 => decide (ty = .int) && fo.isNone
  | 11 => decide (ty = .long) && fo.isNone
  | 12 => decide (ty = .boolean) && fo.isNone
  | _ => decide (ft.1 < 7) && bc_isR ty
/-- what is known of a class by its number -/
def bc_cK (c : Nat) (C : String) (T : u_T) (N : Nat) (ty : Nat → FieldType) : Prop :=
  vwCl[c]? = some (C, T, N) ∧ N = bc_nf c ∧ (∀ w ∈ u_ws C T N, w ∈ bc_T) ∧ (∀ k, k < N → parseFieldDescriptor (T k).2.2.1 = some (ty k)) ∧ (∀ a, a < N → ∀ b, b < N → a ≠ b → (T a).2.1 ≠ (T b).2.1) ∧ (∀ k, k < N → bc_cF c k = T k) ∧ (∀ k, k < N → bc_kin (bc_ft c k) (ty k) (bc_fo c k) = true) ∧ (vwCl.getD c ("", TX0, 0)).1 = C ∧ (vwCl.getD c ("", TX0, 0)).2.2 = N
def bc_u0 : List Nat := [1008, 1010, 1012]
def bc_u1 : List Nat := [1077, 1079]
def bc_u2 : List Nat := [1203, 1205, 1207, 1209, 1211, 1213, 1215, 1217, 1219, 1221, 1223, 1225, 1227, 1229, 1231]
def bc_u3 : List Nat := [2018, 2020, 2022, 2024, 2026, 2028, 2030, 2032]
def bc_u4 : List Nat := [1142, 1144, 1146, 1148, 1150]
def bc_u5 : List Nat := [215, 217, 219, 221, 223, 225, 227, 229, 231, 233]
def bc_u6 : List Nat := [174, 176, 178, 180, 182, 184, 186, 188, 190]
def bc_u7 : List Nat := [1035, 1037, 1039, 1041, 1043, 1045, 1047, 1049, 1051, 1053, 1055]
def bc_u8 : List Nat := [127, 129, 131, 133, 135, 137, 139, 141, 143, 145, 147, 149, 151, 153, 155]
def bc_u9 : List Nat := [40, 42, 44]
def bc_u10 : List Nat := [1111, 1113, 1115, 1117, 1119, 1121]
def bc_u11 : List Nat := [2056, 2058, 2060, 2062, 2064, 2066, 2068, 2070, 2072, 2074, 2076, 2078, 2080, 2082, 2084, 2086, 2088, 2090, 2092]
def bc_u12 : List Nat := [5222, 5224, 5226, 5228, 5230, 5232, 5234, 5236, 5238, 6000, 6002, 6004, 6006, 6008, 6010, 6012, 6014, 6016, 6018, 6020, 6022, 6024, 6026, 6028, 6030, 6032, 6034, 6036, 6038, 6040, 6042, 6044, 6046, 6048, 6050, 6052, 6054, 6056, 6058, 6060, 6062, 6064, 6066, 6068, 6070, 6072, 6074, 6076, 6078, 6080]
theorem bc_v0 : ∀ w ∈ u_ws RX0 TX0 3, w ∈ bc_T := bc_uin bc_u0 (by decide +kernel)
theorem bc_v1 : ∀ w ∈ u_ws RX1 TX1 2, w ∈ bc_T := bc_uin bc_u1 (by decide +kernel)
theorem bc_v2 : ∀ w ∈ u_ws RX2 TX2 15, w ∈ bc_T := bc_uin bc_u2 (by decide +kernel)
theorem bc_v3 : ∀ w ∈ u_ws RX3 TX3 8, w ∈ bc_T := bc_uin bc_u3 (by decide +kernel)
theorem bc_v4 : ∀ w ∈ u_ws RX4 TX4 5, w ∈ bc_T := bc_uin bc_u4 (by decide +kernel)
theorem bc_v5 : ∀ w ∈ u_ws RX5 TX5 10, w ∈ bc_T := bc_uin bc_u5 (by decide +kernel)
theorem bc_v6 : ∀ w ∈ u_ws RX6 TX6 9, w ∈ bc_T := bc_uin bc_u6 (by decide +kernel)
theorem bc_v7 : ∀ w ∈ u_ws RX7 TX7 11, w ∈ bc_T := bc_uin bc_u7 (by decide +kernel)
theorem bc_v8 : ∀ w ∈ u_ws RX8 TX8 15, w ∈ bc_T := bc_uin bc_u8 (by decide +kernel)
theorem bc_v9 : ∀ w ∈ u_ws RX9 TX9 3, w ∈ bc_T := bc_uin bc_u9 (by decide +kernel)
theorem bc_v10 : ∀ w ∈ u_ws RX10 TX10 6, w ∈ bc_T := bc_uin bc_u10 (by decide +kernel)
theorem bc_v11 : ∀ w ∈ u_ws RX11 TX11 19, w ∈ bc_T := bc_uin bc_u11 (by decide +kernel)
theorem bc_v12 : ∀ w ∈ u_ws RX12 TX12 50, w ∈ bc_T := bc_uin bc_u12 (by decide +kernel)
theorem bc_cls : ∀ c, c < 13 → ∃ C T N ty, bc_cK c C T N ty
  | 0, _ => ⟨RX0, TX0, 3, tyX0, rfl, rfl, bc_v0, tyX0_ok, nmX0, by intro k hk; exact if_pos hk, by decide +kernel, rfl, rfl⟩
  | 1, _ => ⟨RX1, TX1, 2, tyX1, rfl, rfl, bc_v1, tyX1_ok, nmX1, by intro k hk; exact if_pos hk, by decide +kernel, rfl, rfl⟩
  | 2, _ => ⟨RX2, TX2, 15, tyX2, rfl, rfl, bc_v2, tyX2_ok, nmX2, by intro k hk; exact if_pos hk, by decide +kernel, rfl, rfl⟩
  | 3, _ => ⟨RX3, TX3, 8, tyX3, rfl, rfl, bc_v3, tyX3_ok, nmX3, by intro k hk; exact if_pos hk, by decide +kernel, rfl, rfl⟩
  | 4, _ => ⟨RX4, TX4, 5, tyX4, rfl, rfl, bc_v4, tyX4_ok, nmX4, by intro k hk; exact if_pos hk, by decide +kernel, rfl, rfl⟩
  | 5, _ => ⟨RX5, TX5, 10, tyX5, rfl, rfl, bc_v5, tyX5_ok, nmX5, by intro k hk; exact if_pos hk, by decide +kernel, rfl, rfl⟩
  | 6, _ => ⟨RX6, TX6, 9, tyX6, rfl, rfl, bc_v6, tyX6_ok, nmX6, by intro k hk; exact if_pos hk, by decide +kernel, rfl, rfl⟩
  | 7, _ => ⟨RX7, TX7, 11, tyX7, rfl, rfl, bc_v7, tyX7_ok, nmX7, by intro k hk; exact if_pos hk, by decide +kernel, rfl, rfl⟩
  | 8, _ => ⟨RX8, TX8, 15, tyX8, rfl, rfl, bc_v8, tyX8_ok, nmX8, by intro k hk; exact if_pos hk, by decide +kernel, rfl, rfl⟩
  | 9, _ => ⟨RX9, TX9, 3, tyX9, rfl, rfl, bc_v9, tyX9_ok, nmX9, by intro k hk; exact if_pos hk, by decide +kernel, rfl, rfl⟩
  | 10, _ => ⟨RX10, TX10, 6, tyX10, rfl, rfl, bc_v10, tyX10_ok, nmX10, by intro k hk; exact if_pos hk, by decide +kernel, rfl, rfl⟩
  | 11, _ => ⟨RX11, TX11, 19, tyX11, rfl, rfl, bc_v11, tyX11_ok, nmX11, by intro k hk; exact if_pos hk, by decide +kernel, rfl, rfl⟩
  | 12, _ => ⟨RX12, TX12, 50, tyX12, rfl, rfl, bc_v12, tyX12_ok, nmX12, by intro k hk; exact if_pos hk, by decide +kernel, rfl, rfl⟩
  | n + 13, h => absurd h (by omega)
end
section
theorem bc_cf_i {g : bc_GG} (ad : Nat → Nat) {ft : Nat × Nat} (h : ft.1 = 10 ∨ ft.1 = 12) (x : Int) : bc_cf ad ft x = bc_cv g ad (.inl x) := by
  unfold bc_cf
  rcases h with h | h <;> rw [h] <;> rfl
theorem bc_cf_j {g : bc_GG} (ad : Nat → Nat) {ft : Nat × Nat} (h : ft.1 = 11) (x : Int) : bc_cf ad ft x = bc_cv g ad (.inr (.inl x)) := by
  unfold bc_cf
  rw [h]
  rfl
theorem bc_cv_r {g : bc_GG} (ad : Nat → Nat) {sh : Nat × Nat} (h : sh.1 < 7) (x : Int) : bc_cv g ad (.inr (.inr (sh, x))) = .ref (ad x.toNat) := by
  show (if sh.1 = 7 then Value.ref (bc_b g) else if sh.1 = 8 then Value.ref (bc_aK g sh.2) else Value.ref (ad x.toNat)) = _
  rw [if_neg (by omega), if_neg (by omega)]
theorem bc_rr_pos (ad : Nat → Nat) {x : Int} (h : 0 ≤ x) : bc_rr ad x = some (ad x.toNat) := by
  unfold bc_rr
  rw [if_neg (by omega)]
theorem bc_cf_r {g : bc_GG} (ad : Nat → Nat) {ft : Nat × Nat} (h : ft.1 < 7) {x : Int} (hx : 0 ≤ x) : bc_cf ad ft x = bc_cv g ad (.inr (.inr (ft, x))) := by
  rw [bc_cv_r ad h]
  obtain ⟨a, b⟩ := ft
  unfold bc_cf
  dsimp only at h ⊢
  split
  · omega
  · omega
  · omega
  · rw [bc_rr_pos ad hx]; rfl
theorem bc_fk_i {np : Nat} {ft : Nat × Nat} (h : ft.1 = 10) {x : Int} : bc_fk np ft x ↔ bc_i x := by unfold bc_fk; rw [h]; exact Iff.rfl
theorem bc_fk_j {np : Nat} {ft : Nat × Nat} (h : ft.1 = 11) {x : Int} : bc_fk np ft x ↔ bc_j x := by unfold bc_fk; rw [h]; exact Iff.rfl
theorem bc_fk_z {np : Nat} {ft : Nat × Nat} (h : ft.1 = 12) {x : Int} : bc_fk np ft x ↔ (x = 0 ∨ x = 1) := by unfold bc_fk; rw [h]; exact Iff.rfl
theorem bc_fk_r {np : Nat} {ft : Nat × Nat} (h : ft.1 < 7) {x : Int} : bc_fk np ft x ↔ (0 ≤ x → x.toNat < np ∧ bc_sh x.toNat = ft) := by
  obtain ⟨a, b⟩ := ft
  dsimp only at h
  unfold bc_fk
  dsimp only
  split
  · omega
  · omega
  · omega
  · exact ⟨fun q => q.2, fun q => ⟨h, q⟩⟩
theorem bc_fk_k {np : Nat} {ft : Nat × Nat} {x : Int} (h : bc_fk np ft x) : ft.1 = 10 ∨ ft.1 = 11 ∨ ft.1 = 12 ∨ ft.1 < 7 := by
  unfold bc_fk at h
  split at h
  · rename_i q; exact Or.inl q
  · rename_i q; exact Or.inr (Or.inl q)
  · rename_i q; exact Or.inr (Or.inr (Or.inl q))
  · exact Or.inr (Or.inr (Or.inr h.1))
/-- a reference of the world -/
theorem bc_vo_r {np : Nat} {sh : Nat × Nat} {r : Int} (h : bc_vo np (.inr (.inr (sh, r)))) (hs : sh.1 < 7) : ∃ i : Nat, r = (i : Int) ∧ i < np ∧ bc_sh i = sh := by
  rcases h with h | h | ⟨-, h2, h3, h4⟩
  · omega
  · omega
  · exact ⟨r.toNat, by omega, h3, h4⟩
section BCF
variable {g : bc_GG} {ph : Bool} {p : Program} {l : Launch} {e : Env} {R : Room} {s : State} {m : MethodId} {args : Array Value} {below : List Frame} {meth : Method} {c : Code} {Z : State → Prop} {k nq mc ms n0 : Nat} {ad0 : Nat → Nat} {idx np : Nat} {ls : bc_L} {st : bc_St} {h : bc_H}
theorem bc_getW (hC : bc_Cx g p s m args meth c k) {ad : Nat → Nat} {H : Heap} {locs : List Loc} {cells slots : Nat} {lsc : Array Slot} {pcb : Nat} {rest : List Value} (hR : bc_R g ph ad h np H) {n q : Nat} (h13 : n / 64 < 13) (hN : n % 64 < bc_nf (n / 64)) {wi : List Nat}
    (hw : bc_wd wi 0 (.fieldLink (bc_mi k).1 q (bc_cF (n / 64) (n % 64)).1 (bc_cF (n / 64) (n % 64)).2.1 (bc_cF (n / 64) (n % 64)).2.2.1) = true) {i : Nat} (hi : i < np) (hs : bc_sh i = (0, n / 64)) (hd : decode (bc_mi k).2.2.1 pcb = .ok (.getfield q, 3))
    (kk : W p l e R s m args below meth c H locs cells slots Z (F0 m (pcb + 3) lsc (bc_cf ad (bc_ft (n / 64) (n % 64)) (h i (n % 64 : Nat)) :: rest))) : W p l e R s m args below meth c H locs cells slots Z (F0 m pcb lsc (.ref (ad i) :: rest)) := by
  obtain ⟨C, T, N, ty, h1, h2, h3, h4, h5, h6, -⟩ := bc_cls _ h13
  subst h2
  rw [h6 _ hN] at hw
  have hg := bc_ws_get (g := g) (ad := ad) (h := h) hi
  rw [hs] at hg
  exact va_get (v := bc_cf ad (bc_ft (n / 64) (n % 64)) (h i (n % 64 : Nat))) hC.1 hC.2.1 hC.2.2.2.2.1 h3 hC.2.2.2.1 hC.2.2.2.2.2.2.1 hR.1 i hg h1 (n % 64) hN (hC.2.2.2.2.1 _ (bc_wd_in hw)) (fun _ z => z) (by rw [List.getElem?_map, List.getElem?_range hN]; rfl) hd kk
theorem bc_o_getfield {n : Nat} (hC : bc_Cx g p s m args meth c k) (hi : (bc_code k)[idx]? = some (.getfield n)) (hx : bc_wp (bc_s1 ph (.getfield n) ls st h) (fun ls st h => bc_At g ph p l e R s m args below meth c Z k nq mc ms n0 ad0 (idx + 1) np ls st h)) : bc_At g ph p l e R s m args below meth c Z k nq mc ms n0 ad0 idx np ls st h := by
  simp only [bc_s1] at hx
  split at hx
  · rename_i cc r st
    intro cells slots H locs ad lsc pcb hF h0 hR hS hL hV hA hp
    obtain ⟨j, len, wi, hd, hr⟩ := bc_rw0 hC.2.2.2.2.2.2.2.2 hi hp
    unfold bc_rel at hr
    simp only [Bool.and_eq_true, decide_eq_true_eq] at hr
    obtain ⟨⟨⟨hn, h13⟩, hN⟩, hm⟩ := hr
    split at hm
    · simp only [Bool.and_eq_true, decide_eq_true_eq] at hm
      obtain ⟨hw, rfl⟩ := hm
      split at hx
      · rename_i hb
        have hcc : cc = n / 64 := Nat.eq_of_beq_eq_true hb
        subst hcc
        obtain ⟨i, rfl, hi1, hs⟩ := bc_vo_r (hV _ List.mem_cons_self) (by show 0 < 7; decide)
        have hV2 : ∀ v ∈ st, bc_vo np v := fun v hv => hV v (List.mem_cons_of_mem _ hv)
        have hck := hR.2.2.1 i hi1
        rw [hs] at hck
        have hfk : bc_fk np (bc_ft (n / 64) (n % 64)) (h i (n % 64 : Nat)) := hck _ hN
        have he : List.map (bc_cv g ad) (.inr (.inr ((0, n / 64), (i : Int))) :: st) = .ref (ad i) :: st.map (bc_cv g ad) := by
          rw [List.map_cons, bc_cv_r ad (by show 0 < 7; decide)]
          rfl
        rw [he]
        refine bc_getW hC hR h13 hN hw hi1 hs hd ?_
        split at hx
        · rename_i ft
          rw [bc_cf_i (g := g) ad (Or.inl (by rw [ft]))]
          exact hx cells slots H locs ad lsc (pcb + 3) hF h0 hR hS hL (bc_stcons ((bc_fk_i (by rw [ft])).mp hfk) hV2) hA hn
        · rename_i ft
          rw [bc_cf_j (g := g) ad (by rw [ft])]
          exact hx cells slots H locs ad lsc (pcb + 3) hF h0 hR hS hL (bc_stcons ((bc_fk_j (by rw [ft])).mp hfk) hV2) hA hn
        · rename_i ft
          rw [bc_cf_i (g := g) ad (Or.inr (by rw [ft]))]
          refine hx cells slots H locs ad lsc (pcb + 3) hF h0 hR hS hL (bc_stcons ?_ hV2) hA hn
          have q := (bc_fk_z (by rw [ft])).mp hfk
          show bc_i _
          rcases q with q | q <;> rw [q] <;> exact ⟨by decide, by decide⟩
        · rename_i f1 f2 f3
          have h7 : (bc_ft (n / 64) (n % 64)).1 < 7 := by
            rcases bc_fk_k hfk with q | q | q | q
            · exact (f1 (bc_ft (n / 64) (n % 64)).2 (Prod.ext q rfl)).elim
            · exact (f2 (bc_ft (n / 64) (n % 64)).2 (Prod.ext q rfl)).elim
            · exact (f3 (bc_ft (n / 64) (n % 64)).2 (Prod.ext q rfl)).elim
            · exact q
          have hfr := (bc_fk_r h7).mp hfk
          split at hx
          · rename_i o ho
            obtain ⟨q1, q2⟩ := hR.2.2.2.1 rfl i hi1 _ hs _ hN o ho
            rw [bc_cf_r (g := g) ad h7 q2, q1]
            rw [q1] at q2 hfr
            exact hx cells slots H locs ad lsc (pcb + 3) hF h0 hR hS hL (bc_stcons (Or.inr (Or.inr ⟨h7, q2, hfr q2⟩)) hV2) hA hn
          · obtain ⟨q2, hx⟩ := hx
            rw [bc_cf_r (g := g) ad h7 q2]
            exact hx cells slots H locs ad lsc (pcb + 3) hF h0 hR hS hL (bc_stcons (Or.inr (Or.inr ⟨h7, q2, hfr q2⟩)) hV2) hA hn
      · exact False.elim hx
    · cases hm
  · exact False.elim hx
theorem bc_putW (hC : bc_Cx g p s m args meth c k) {ad : Nat → Nat} {H : Heap} {locs : List Loc} {cells slots : Nat} {lsc : Array Slot} {pcb : Nat} {rest : List Value} (hR : bc_R g ph ad h np H) (hS : va_S (bc_A g) s.heap H locs) {n q : Nat} (h13 : n / 64 < 13) (hN : n % 64 < bc_nf (n / 64)) {wi : List Nat}
    (hfi : ((!(bc_cF (n / 64) (n % 64)).2.2.2) || (decide ((bc_mi k).2.1.name = "<init>") && decide ((bc_mi k).1 = (bc_cF (n / 64) (n % 64)).1))) = true)
    (hw : bc_wd wi 0 (.fieldLink (bc_mi k).1 q (bc_cF (n / 64) (n % 64)).1 (bc_cF (n / 64) (n % 64)).2.1 (bc_cF (n / 64) (n % 64)).2.2.1) = true) {i : Nat} (hi : i < np) (hs : bc_sh i = (0, n / 64)) (hd : decode (bc_mi k).2.2.1 pcb = .ok (.putfield q, 3)) {x : Int} {v : Value} (hv : v = bc_cf ad (bc_ft (n / 64) (n % 64)) x)
    (hfk : bc_fk np (bc_ft (n / 64) (n % 64)) x) (h0x : (bc_ft (n / 64) (n % 64)).1 < 7 → 0 ≤ x) (hfo : ph = true → bc_fo (n / 64) (n % 64) = none)
    (kk : ∀ (H1 : Heap) (locs1 : List Loc), bc_R g ph ad (bc_upd h i (n % 64 : Nat) x) np H1 → va_S (bc_A g) s.heap H1 locs1 → W p l e R s m args below meth c H1 locs1 cells slots Z (F0 m (pcb + 3) lsc rest)) : W p l e R s m args below meth c H locs cells slots Z (F0 m pcb lsc (v :: .ref (ad i) :: rest)) := by
  obtain ⟨C, T, N, ty, h1, h2, h3, h4, h5, h6, h7, -⟩ := bc_cls _ h13
  subst h2
  rw [h6 _ hN] at hw hfi
  have hkin := h7 _ hN
  have hg := bc_ws_get (g := g) (ad := ad) (h := h) hi
  rw [hs] at hg
  have hnf : narrow (ty (n % 64)) v = v ∧ fits (ty (n % 64)) v = true := by
    rw [hv]
    unfold bc_kin at hkin
    rcases bc_fk_k hfk with z | z | z | z
    · rw [z] at hkin
      simp only [Bool.and_eq_true, decide_eq_true_eq] at hkin
      rw [hkin.1, bc_cf_i (g := g) ad (Or.inl z)]
      exact ⟨rfl, rfl⟩
    · rw [z] at hkin
      simp only [Bool.and_eq_true, decide_eq_true_eq] at hkin
      rw [hkin.1, bc_cf_j (g := g) ad z]
      exact ⟨rfl, rfl⟩
    · rw [z] at hkin
      simp only [Bool.and_eq_true, decide_eq_true_eq] at hkin
      rw [hkin.1, bc_cf_i (g := g) ad (Or.inr z)]
      rcases (bc_fk_z z).mp hfk with y | y <;> rw [y] <;> exact ⟨rfl, rfl⟩
    · have hR2 : bc_isR (ty (n % 64)) = true := by
        split at hkin
        · omega
        · omega
        · omega
        · simp only [Bool.and_eq_true, decide_eq_true_eq] at hkin
          exact hkin.2
      rw [bc_cf_r (g := g) ad z (h0x z), bc_cv_r ad z]
      exact bc_isR_ok hR2 _
  have hset : ((List.range (bc_nf (n / 64))).map (fun j : Nat => bc_cf ad (bc_ft (n / 64) j) (h i j))).set (n % 64) v = (List.range (bc_nf (n / 64))).map (fun j : Nat => bc_cf ad (bc_ft (n / 64) j) (bc_upd h i (n % 64 : Nat) x i j)) := by
    apply List.ext_getElem?
    intro j
    by_cases hj : j < bc_nf (n / 64)
    · rw [List.getElem?_map, List.getElem?_range hj]
      by_cases z : j = n % 64
      · subst z
        rw [List.getElem?_set_self (by simpa using hj)]
        simp only [Option.map_some, bc_upd_at]
        simp [hv]
      · rw [List.getElem?_set_ne (Ne.symm z), List.getElem?_map, List.getElem?_range hj]
        simp only [Option.map_some, bc_upd_at]
        rw [if_neg (by omega)]
    · rw [List.getElem?_eq_none (by simpa using hj), List.getElem?_eq_none (by simpa using hj)]
  have hend : ∀ (H1 : Heap) (locs1 : List Loc), va_P (bc_D g) vwCl ((bc_ws g ad h np).set i (ad i, .inr (n / 64, ((List.range (bc_nf (n / 64))).map (fun j : Nat => bc_cf ad (bc_ft (n / 64) j) (h i j))).set (n % 64) v))) H1 → va_D (bc_A g) ((bc_ws g ad h np).set i (ad i, .inr (n / 64, ((List.range (bc_nf (n / 64))).map (fun j : Nat => bc_cf ad (bc_ft (n / 64) j) (h i j))).set (n % 64) v))) → va_S (bc_A g) s.heap H1 locs1 → W p l e R s m args below meth c H1 locs1 cells slots Z (F0 m (pcb + 3) lsc rest) := by
    intro H1 locs1 hP hD hS1
    rw [hset] at hP hD
    have e1 : ((Sum.inr (n / 64, (List.range (bc_nf (n / 64))).map (fun j : Nat => bc_cf ad (bc_ft (n / 64) j) (bc_upd h i (n % 64 : Nat) x i j))) : va_E)) = bc_ce g ad (bc_sh i) (bc_upd h i (n % 64 : Nat) x i) := by
      rw [hs]; rfl
    refine kk H1 locs1 (bc_R_row hR hi (fun a ha => bc_upd_ne ha) ?_ ?_ ?_ ?_) hS1
    · have hck := hR.2.2.1 i hi
      rw [hs] at hck ⊢
      intro j hj
      rw [bc_upd_at]
      by_cases z : (j : Int) = (n % 64 : Nat)
      · rw [if_pos z]
        have z2 : j = n % 64 := by omega
        rw [z2]; exact hfk
      · rw [if_neg z]; exact hck j hj
    · intro hph c2 hc2 j hj o ho
      rw [bc_upd_at, if_neg]
      intro z
      have z2 : j = n % 64 := by omega
      rw [hs] at hc2
      cases hc2
      rw [z2, hfo hph] at ho
      cases ho
    · rw [hs]; exact hP
    · rw [hs]; exact hD
  simp only [Bool.or_eq_true, Bool.not_eq_true', Bool.and_eq_true, decide_eq_true_eq] at hfi
  rcases hfi with hfi | ⟨hfi, hfi2⟩
  · exact va_put hC.1 hC.2.1 hC.2.2.2.2.1 h3 ty h4 h5 hC.2.2.2.1 hC.2.2.2.2.2.2.1 hR.1 hR.2.1 hS i hg h1 (n % 64) hN (hC.2.2.2.2.1 _ (bc_wd_in hw)) (fun _ z => z) hfi (h4 _ hN) hnf.1 hnf.2 (by simpa using hN) hd hend
  · cases hb : (T (n % 64)).2.2.2 with
    | false => exact va_put hC.1 hC.2.1 hC.2.2.2.2.1 h3 ty h4 h5 hC.2.2.2.1 hC.2.2.2.2.2.2.1 hR.1 hR.2.1 hS i hg h1 (n % 64) hN (hC.2.2.2.2.1 _ (bc_wd_in hw)) (fun _ z => z) hb (h4 _ hN) hnf.1 hnf.2 (by simpa using hN) hd hend
    | true => exact va_putF hC.1 hC.2.1 hC.2.2.2.2.1 h3 ty h4 h5 hC.2.2.2.1 hC.2.2.2.2.2.2.1 hR.1 hR.2.1 hS i hg h1 (n % 64) hN (hC.2.2.2.2.1 _ (bc_wd_in hw)) (fun _ z => z) hb (hC.2.2.2.2.2.1 hfi) hfi2.symm (h4 _ hN) hnf.1 hnf.2 (by simpa using hN) hd hend
theorem bc_o_putfield {n : Nat} (hC : bc_Cx g p s m args meth c k) (hi : (bc_code k)[idx]? = some (.putfield n)) (hx : bc_wp (bc_s1 ph (.putfield n) ls st h) (fun ls st h => bc_At g ph p l e R s m args below meth c Z k nq mc ms n0 ad0 (idx + 1) np ls st h)) : bc_At g ph p l e R s m args below meth c Z k nq mc ms n0 ad0 idx np ls st h := by
  simp only [bc_s1] at hx
  split at hx
  · rename_i v cc r st
    intro cells slots H locs ad lsc pcb hF h0 hR hS hL hV hA hp
    obtain ⟨j, len, wi, hd, hr⟩ := bc_rw0 hC.2.2.2.2.2.2.2.2 hi hp
    unfold bc_rel at hr
    simp only [Bool.and_eq_true, decide_eq_true_eq] at hr
    obtain ⟨⟨⟨⟨hn, h13⟩, hN⟩, hfi⟩, hm⟩ := hr
    split at hm
    · simp only [Bool.and_eq_true, decide_eq_true_eq] at hm
      obtain ⟨hw, rfl⟩ := hm
      split at hx
      · rename_i hb
        have hcc : cc = n / 64 := Nat.eq_of_beq_eq_true hb
        subst hcc
        have hv0 := hV _ List.mem_cons_self
        obtain ⟨i, rfl, hi1, hs⟩ := bc_vo_r (hV _ (List.mem_cons_of_mem _ List.mem_cons_self)) (by show 0 < 7; decide)
        have hV2 : ∀ v ∈ st, bc_vo np v := fun v hv => hV v (List.mem_cons_of_mem _ (List.mem_cons_of_mem _ hv))
        have he : List.map (bc_cv g ad) (v :: .inr (.inr ((0, n / 64), (i : Int))) :: st) = bc_cv g ad v :: .ref (ad i) :: st.map (bc_cv g ad) := by
          rw [List.map_cons, List.map_cons, bc_cv_r ad (by show 0 < 7; decide)]
          rfl
        rw [he]
        obtain ⟨C, T, N, ty, -, h2, -, -, -, -, h7, -⟩ := bc_cls _ h13
        subst h2
        have hkin := h7 _ hN
        have kk : ∀ x : Int, bc_At g ph p l e R s m args below meth c Z k nq mc ms n0 ad0 (idx + 1) np ls st (bc_upd h i (n % 64 : Nat) x) → ∀ (H1 : Heap) (locs1 : List Loc), bc_R g ph ad (bc_upd h i (n % 64 : Nat) x) np H1 → va_S (bc_A g) s.heap H1 locs1 → W p l e R s m args below meth c H1 locs1 cells slots Z (F0 m (pcb + 3) lsc (st.map (bc_cv g ad))) := fun x hx H1 locs1 hR1 hS1 => hx cells slots H1 locs1 ad lsc (pcb + 3) hF h0 hR1 hS1 hL hV2 hA hn
        have hno : ∀ ft1, (bc_ft (n / 64) (n % 64)).1 = ft1 → (ft1 = 10 ∨ ft1 = 11 ∨ ft1 = 12) → bc_fo (n / 64) (n % 64) = none := by
          intro ft1 hf hz
          unfold bc_kin at hkin
          rw [hf] at hkin
          rcases hz with rfl | rfl | rfl
          all_goals
            simp only [Bool.and_eq_true, decide_eq_true_eq, Option.isNone_iff_eq_none] at hkin
            exact hkin.2
        split at hx
        · rename_i x y hft
          exact bc_putW hC hR hS h13 hN hfi hw hi1 hs hd (x := x) (by rw [bc_cf_i (g := g) ad (Or.inl (by rw [hft]))]) ((bc_fk_i (by rw [hft])).mpr hv0) (fun q => by rw [hft] at q; dsimp only at q; omega) (fun _ => hno 10 (by rw [hft]) (Or.inl rfl)) (kk x hx)
        · rename_i x y hft
          exact bc_putW hC hR hS h13 hN hfi hw hi1 hs hd (x := x) (by rw [bc_cf_i (g := g) ad (Or.inr (by rw [hft]))]) ((bc_fk_z (by rw [hft])).mpr hx.1) (fun q => by rw [hft] at q; dsimp only at q; omega) (fun _ => hno 12 (by rw [hft]) (Or.inr (Or.inr rfl))) (kk x hx.2)
        · rename_i x y hft
          exact bc_putW hC hR hS h13 hN hfi hw hi1 hs hd (x := x) (by rw [bc_cf_j (g := g) ad (by rw [hft])]) ((bc_fk_j (by rw [hft])).mpr hv0) (fun q => by rw [hft] at q; dsimp only at q; omega) (fun _ => hno 11 (by rw [hft]) (Or.inr (Or.inl rfl))) (kk x hx)
        · rename_i a b x kx mx hft
          split at hx
          · exact False.elim hx
          · rename_i hph
            split at hx
            · rename_i hab hbm
              have e1 : a = kx := Nat.eq_of_beq_eq_true hab
              have e2 : b = mx := Nat.eq_of_beq_eq_true hbm
              subst e1 e2
              have ha8 : a ≤ 8 := by
                rcases hv0 with z | z | z
                · dsimp only at z; omega
                · have := z.1; dsimp only at this; omega
                · have := z.1; dsimp only at this; omega
              have h7a : (bc_ft (n / 64) (n % 64)).1 < 7 := by
                unfold bc_kin at hkin
                rw [hft] at hkin ⊢
                dsimp only at hkin ⊢
                split at hkin
                · omega
                · omega
                · omega
                · simp only [Bool.and_eq_true, decide_eq_true_eq] at hkin
                  exact hkin.1
              have h7b : a < 7 := by rw [hft] at h7a; exact h7a
              obtain ⟨xi, rfl, hxi, hxs⟩ := bc_vo_r hv0 h7b
              exact bc_putW hC hR hS h13 hN hfi hw hi1 hs hd (x := (xi : Int)) (by rw [bc_cf_r (g := g) ad h7a (by omega), hft]) ((bc_fk_r h7a).mpr (fun _ => ⟨hxi, by rw [hft]; exact hxs⟩)) (fun _ => by omega) (fun z => by
                cases hfo : bc_fo (n / 64) (n % 64) with
                | none => rfl
                | some o => exact absurd hfo (hph o z)) (kk _ hx)
            · exact False.elim hx
        · exact False.elim hx
      · exact False.elim hx
    · cases hm
  · exact False.elim hx
end BCF
end
section
theorem bc_sh_small (i : Nat) : (bc_sh i).2 < 100000 := by
  have h : ∀ s ∈ bc_SH, s.2 < 100000 := by decide +kernel
  unfold bc_sh
  by_cases hi : i < bc_SH.length
  · rw [List.getD_eq_getElem?_getD, List.getElem?_eq_getElem hi]
    exact h _ (List.getElem_mem hi)
  · rw [List.getD_eq_getElem?_getD, List.getElem?_eq_none (by omega)]
    decide
/-- an array of the world -/
theorem bc_arr {g : bc_GG} {ad : Nat → Nat} {h : bc_H} {np : Nat} {sh : Nat × Nat} {r : Int} (hv : bc_vo np (.inr (.inr (sh, r)))) (hs : sh.1 < 7) : ∃ i : Nat, r = (i : Int) ∧ i < np ∧ bc_sh i = sh ∧ bc_cv g ad (.inr (.inr (sh, r))) = .ref (ad i) ∧ (bc_ws g ad h np)[i]? = some (ad i, bc_ce g ad sh (h i)) := by
  obtain ⟨i, rfl, h1, h2⟩ := bc_vo_r hv hs
  exact ⟨i, rfl, h1, h2, bc_cv_r ad hs _, h2 ▸ bc_ws_get h1⟩
theorem bc_ix {i : Int} {n : Nat} (hi : 0 ≤ i ∧ i < (n : Int)) (hn : n < 100000) : vp_in (Int32.ofInt i) n ∧ (Int32.ofInt i).toNatClampNeg = i.toNat ∧ ((i.toNat : Nat) : Int) = i ∧ i.toNat < n := by
  obtain ⟨a, b⟩ := bc_ci hi.1 hi.2 ⟨by omega, by omega⟩
  exact ⟨a, b, by omega, by omega⟩
theorem bc_up32 (h : bc_H) (r : Int) {i : Int} (hi : 0 ≤ i) (x : Int) : (fun j : Nat => Int32.ofInt (bc_upd h r i x r j)) = upd (fun j : Nat => Int32.ofInt (h r j)) i.toNat (Int32.ofInt x) := by
  funext j
  unfold upd
  rw [bc_upd_at]
  by_cases e : j = i.toNat
  · rw [if_pos e, if_pos (by omega)]
  · rw [if_neg e, if_neg (by omega)]
theorem bc_up64 (h : bc_H) (r : Int) {i : Int} (hi : 0 ≤ i) (x : Int) : (fun j : Nat => Int64.ofInt (bc_upd h r i x r j)) = vp_updL (fun j : Nat => Int64.ofInt (h r j)) i.toNat (Int64.ofInt x) := by
  funext j
  unfold vp_updL
  rw [bc_upd_at]
  by_cases e : j = i.toNat
  · rw [if_pos e, if_pos (by omega)]
  · rw [if_neg e, if_neg (by omega)]
theorem bc_upr (ad : Nat → Nat) (h : bc_H) (r : Int) {i : Int} {n : Nat} (hi : 0 ≤ i) (hn : i.toNat < n) {x : Int} (hx : 0 ≤ x) : (fun j : Nat => if j < n then bc_rr ad (bc_upd h r i x r j) else none) = va_up (fun j : Nat => if j < n then bc_rr ad (h r j) else none) i.toNat (some (ad x.toNat)) := by
  funext j
  unfold va_up
  rw [bc_upd_at]
  by_cases e : j = i.toNat
  · rw [if_pos e, if_pos (by omega), if_pos (by omega), bc_rr_pos ad hx]
  · rw [if_neg (show ¬ (j : Int) = i by omega), if_neg e]
theorem bc_cpy32 (h : bc_H) (r1 r2 : Int) {s1 d2 n : Int} (hs : 0 ≤ s1) (hd : 0 ≤ d2) (hn : 0 ≤ n) : (fun j : Nat => Int32.ofInt (bc_blk h r1 s1 r2 d2 n r2 j)) = va_cpy (fun j : Nat => Int32.ofInt (h r1 j)) (fun j : Nat => Int32.ofInt (h r2 j)) s1.toNat d2.toNat n.toNat := by
  funext j
  unfold va_cpy bc_blk
  by_cases e : d2.toNat ≤ j ∧ j < d2.toNat + n.toNat
  · rw [if_pos e, if_pos ⟨rfl, by omega, by omega⟩]
    congr 2
    omega
  · rw [if_neg e, if_neg (fun q => e (by omega))]
theorem bc_cpy64 (h : bc_H) (r1 r2 : Int) {s1 d2 n : Int} (hs : 0 ≤ s1) (hd : 0 ≤ d2) (hn : 0 ≤ n) : (fun j : Nat => Int64.ofInt (bc_blk h r1 s1 r2 d2 n r2 j)) = va_cpy (fun j : Nat => Int64.ofInt (h r1 j)) (fun j : Nat => Int64.ofInt (h r2 j)) s1.toNat d2.toNat n.toNat := by
  funext j
  unfold va_cpy bc_blk
  by_cases e : d2.toNat ≤ j ∧ j < d2.toNat + n.toNat
  · rw [if_pos e, if_pos ⟨rfl, by omega, by omega⟩]
    congr 2
    omega
  · rw [if_neg e, if_neg (fun q => e (by omega))]
theorem bc_blk_at (h : bc_H) (r1 s1 r2 d2 n j : Int) : bc_blk h r1 s1 r2 d2 n r2 j = if d2 ≤ j ∧ j < d2 + n then h r1 (s1 + (j - d2)) else h r2 j := by
  unfold bc_blk
  by_cases e : d2 ≤ j ∧ j < d2 + n
  · rw [if_pos e, if_pos ⟨rfl, e⟩]
  · rw [if_neg e, if_neg (fun q => e q.2)]
theorem bc_s7 {np : Nat} {n : Nat} {r : Int} : bc_vo np (.inr (.inr ((7, n), r))) := Or.inl rfl
section BCA
variable {g : bc_GG} {ph : Bool} {p : Program} {l : Launch} {e : Env} {R : Room} {s : State} {m : MethodId} {args : Array Value} {below : List Frame} {meth : Method} {c : Code} {Z : State → Prop} {k nq mc ms n0 : Nat} {ad0 : Nat → Nat} {idx np : Nat} {ls : bc_L} {st : bc_St} {h : bc_H}
theorem bc_bnA (hC : bc_Cx g p s m args meth c k) : ¬ bc_A g (bc_b g) := fun q => by
  have h1 := hC.2.2.2.2.2.2.2.1.2.1
  unfold bc_A at q
  omega
theorem bc_o_arraylength (hC : bc_Cx g p s m args meth c k) (hi : (bc_code k)[idx]? = some .arraylength) (hx : bc_wp (bc_s1 ph .arraylength ls st h) (fun ls st h => bc_At g ph p l e R s m args below meth c Z k nq mc ms n0 ad0 (idx + 1) np ls st h)) : bc_At g ph p l e R s m args below meth c Z k nq mc ms n0 ad0 idx np ls st h := by
  simp only [bc_s1] at hx
  split at hx
  · cases ph with
    | false => exact False.elim hx
    | true =>
    intro cells slots H locs ad lsc pcb hF h0 hR hS hL hV hA hp
    obtain ⟨hd, hx1⟩ := bc_row1 hC.2.2.2.2.2.2.2.2 hi hp (fun _ _ _ _ _ _ => rfl)
    have hX := hC.2.2.2.2.2.2.2.1
    refine va_slen hC.1 hC.2.1 hX.1 (Nat.lt_of_lt_of_le hX.2.1 hX.2.2.1) (bc_bnA hC) hS hd ?_
    rw [← Int32.ofInt_eq_ofNat, ← hR.2.2.2.2.2 rfl]
    refine hx cells slots H locs ad lsc (pcb + 1) hF h0 hR hS hL (bc_stcons ?_ (fun v hv => hV v (List.mem_cons_of_mem _ hv))) hA hx1
    rw [hR.2.2.2.2.2 rfl]
    have := hX.2.2.2.1
    exact ⟨by omega, by omega⟩
  · rename_i n r st
    intro cells slots H locs ad lsc pcb hF h0 hR hS hL hV hA hp
    obtain ⟨hd, hx1⟩ := bc_row1 hC.2.2.2.2.2.2.2.2 hi hp (fun _ _ _ _ _ _ => rfl)
    obtain ⟨i, rfl, hi1, hs, hc, hg⟩ := bc_arr (g := g) (ad := ad) (h := h) (hV _ List.mem_cons_self) (by show 1 < 7; decide)
    rw [List.map_cons, hc]
    refine va_alen (v := Int32.ofInt n) hC.1 hC.2.1 hC.2.2.2.2.2.2.1 hR.1 i 0 hg rfl Int32.ofInt_eq_ofNat.symm hd ?_
    have hsm := bc_sh_small i
    rw [hs] at hsm
    exact hx cells slots H locs ad lsc (pcb + 1) hF h0 hR hS hL (bc_stcons (v := .inl (n : Int)) ⟨by omega, by dsimp only at hsm; omega⟩ (fun v hv => hV v (List.mem_cons_of_mem _ hv))) hA hx1
  · rename_i n r st
    intro cells slots H locs ad lsc pcb hF h0 hR hS hL hV hA hp
    obtain ⟨hd, hx1⟩ := bc_row1 hC.2.2.2.2.2.2.2.2 hi hp (fun _ _ _ _ _ _ => rfl)
    obtain ⟨i, rfl, hi1, hs, hc, hg⟩ := bc_arr (g := g) (ad := ad) (h := h) (hV _ List.mem_cons_self) (by show 3 < 7; decide)
    rw [List.map_cons, hc]
    refine va_alen (v := Int32.ofInt n) hC.1 hC.2.1 hC.2.2.2.2.2.2.1 hR.1 i 2 hg rfl Int32.ofInt_eq_ofNat.symm hd ?_
    have hsm := bc_sh_small i
    rw [hs] at hsm
    exact hx cells slots H locs ad lsc (pcb + 1) hF h0 hR hS hL (bc_stcons (v := .inl (n : Int)) ⟨by omega, by dsimp only at hsm; omega⟩ (fun v hv => hV v (List.mem_cons_of_mem _ hv))) hA hx1
  · exact False.elim hx
theorem bc_o_iaload (hC : bc_Cx g p s m args meth c k) (hi : (bc_code k)[idx]? = some .iaload) (hx : bc_wp (bc_s1 ph .iaload ls st h) (fun ls st h => bc_At g ph p l e R s m args below meth c Z k nq mc ms n0 ad0 (idx + 1) np ls st h)) : bc_At g ph p l e R s m args below meth c Z k nq mc ms n0 ad0 idx np ls st h := by
  simp only [bc_s1] at hx
  split at hx
  · rename_i ix n r st
    intro cells slots H locs ad lsc pcb hF h0 hR hS hL hV hA hp
    obtain ⟨hd, hx1⟩ := bc_row1 hC.2.2.2.2.2.2.2.2 hi hp (fun _ _ _ _ _ _ => rfl)
    obtain ⟨i, rfl, hi1, hs, hc, hg⟩ := bc_arr (g := g) (ad := ad) (h := h) (hV _ (List.mem_cons_of_mem _ List.mem_cons_self)) (by show 1 < 7; decide)
    have hsm := bc_sh_small i
    rw [hs] at hsm
    obtain ⟨q1, q2, q3, q4⟩ := bc_ix hx.1 hsm
    rw [List.map_cons, List.map_cons, hc]
    refine va_iald hC.1 hC.2.1 hC.2.2.2.2.2.2.1 hR.1 i 0 hg rfl q1 hd ?_
    rw [q2, q3]
    have hck := hR.2.2.1 i hi1
    rw [hs] at hck
    have hv : bc_i (h i ix) := by have := hck _ q4; rw [q3] at this; exact this
    exact hx.2 cells slots H locs ad lsc (pcb + 1) hF h0 hR hS hL (bc_stcons (v := .inl (h i ix)) hv (fun v hv => hV v (List.mem_cons_of_mem _ (List.mem_cons_of_mem _ hv)))) hA hx1
  · rename_i ix n r st
    cases ph with
    | false => exact False.elim hx
    | true =>
    intro cells slots H locs ad lsc pcb hF h0 hR hS hL hV hA hp
    obtain ⟨hd, hx1⟩ := bc_row1 hC.2.2.2.2.2.2.2.2 hi hp (fun _ _ _ _ _ _ => rfl)
    have hX := hC.2.2.2.2.2.2.2.1
    have hix := hx.1
    rw [hR.2.2.2.2.2 rfl] at hix
    obtain ⟨q1, q2, q3, q4⟩ := bc_ix hix (by have := hX.2.2.2.1; omega)
    refine va_sld hC.1 hC.2.1 hX.1 (Nat.lt_of_lt_of_le hX.2.1 hX.2.2.1) (bc_bnA hC) hS q1 hd ?_
    have hv := hR.2.2.2.2.1 rfl _ q4
    rw [q3] at hv
    rw [q2, ← Int32.ofInt_toInt (bc_xs g ix.toNat), ← hv]
    refine hx.2 cells slots H locs ad lsc (pcb + 1) hF h0 hR hS hL (bc_stcons ?_ (fun v hv => hV v (List.mem_cons_of_mem _ (List.mem_cons_of_mem _ hv)))) hA hx1
    rw [hv]
    exact bc_ri _
  · exact False.elim hx
theorem bc_o_laload (hC : bc_Cx g p s m args meth c k) (hi : (bc_code k)[idx]? = some .laload) (hx : bc_wp (bc_s1 ph .laload ls st h) (fun ls st h => bc_At g ph p l e R s m args below meth c Z k nq mc ms n0 ad0 (idx + 1) np ls st h)) : bc_At g ph p l e R s m args below meth c Z k nq mc ms n0 ad0 idx np ls st h := by
  simp only [bc_s1] at hx
  split at hx
  · rename_i ix n r st
    intro cells slots H locs ad lsc pcb hF h0 hR hS hL hV hA hp
    obtain ⟨hd, hx1⟩ := bc_row1 hC.2.2.2.2.2.2.2.2 hi hp (fun _ _ _ _ _ _ => rfl)
    obtain ⟨i, rfl, hi1, hs, hc, hg⟩ := bc_arr (g := g) (ad := ad) (h := h) (hV _ (List.mem_cons_of_mem _ List.mem_cons_self)) (by show 3 < 7; decide)
    have hsm := bc_sh_small i
    rw [hs] at hsm
    obtain ⟨q1, q2, q3, q4⟩ := bc_ix hx.1 hsm
    rw [List.map_cons, List.map_cons, hc]
    refine va_lald hC.1 hC.2.1 hC.2.2.2.2.2.2.1 hR.1 i 2 hg rfl q1 hd ?_
    rw [q2, q3]
    have hck := hR.2.2.1 i hi1
    rw [hs] at hck
    have hv : bc_j (h i ix) := by have := hck _ q4; rw [q3] at this; exact this
    exact hx.2 cells slots H locs ad lsc (pcb + 1) hF h0 hR hS hL (bc_stcons (v := .inr (.inl (h i ix))) hv (fun v hv => hV v (List.mem_cons_of_mem _ (List.mem_cons_of_mem _ hv)))) hA hx1
  · exact False.elim hx
theorem bc_o_baload (hC : bc_Cx g p s m args meth c k) (hi : (bc_code k)[idx]? = some .baload) (hx : bc_wp (bc_s1 ph .baload ls st h) (fun ls st h => bc_At g ph p l e R s m args below meth c Z k nq mc ms n0 ad0 (idx + 1) np ls st h)) : bc_At g ph p l e R s m args below meth c Z k nq mc ms n0 ad0 idx np ls st h := by
  simp only [bc_s1] at hx
  split at hx
  · rename_i ix n r st
    intro cells slots H locs ad lsc pcb hF h0 hR hS hL hV hA hp
    obtain ⟨hd, hx1⟩ := bc_row1 hC.2.2.2.2.2.2.2.2 hi hp (fun _ _ _ _ _ _ => rfl)
    obtain ⟨i, rfl, hi1, hs, hc, hg⟩ := bc_arr (g := g) (ad := ad) (h := h) (hV _ (List.mem_cons_of_mem _ List.mem_cons_self)) (by show 2 < 7; decide)
    have hsm := bc_sh_small i
    rw [hs] at hsm
    obtain ⟨q1, q2, q3, q4⟩ := bc_ix hx.1 hsm
    rw [List.map_cons, List.map_cons, hc]
    refine va_bald hC.1 hC.2.1 hC.2.2.2.2.2.2.1 hR.1 i 1 hg rfl q1 hd ?_
    rw [q2, q3]
    have hck := hR.2.2.1 i hi1
    rw [hs] at hck
    have hv : bc_i (h i ix) := by have := hck _ q4; rw [q3] at this; exact ⟨by omega, by omega⟩
    exact hx.2 cells slots H locs ad lsc (pcb + 1) hF h0 hR hS hL (bc_stcons (v := .inl (h i ix)) hv (fun v hv => hV v (List.mem_cons_of_mem _ (List.mem_cons_of_mem _ hv)))) hA hx1
  · rename_i ix n r st
    intro cells slots H locs ad lsc pcb hF h0 hR hS hL hV hA hp
    obtain ⟨hd, hx1⟩ := bc_row1 hC.2.2.2.2.2.2.2.2 hi hp (fun _ _ _ _ _ _ => rfl)
    obtain ⟨i, rfl, hi1, hs, hc, hg⟩ := bc_arr (g := g) (ad := ad) (h := h) (hV _ (List.mem_cons_of_mem _ List.mem_cons_self)) (by show 4 < 7; decide)
    have hsm := bc_sh_small i
    rw [hs] at hsm
    obtain ⟨q1, q2, q3, q4⟩ := bc_ix hx.1 hsm
    rw [List.map_cons, List.map_cons, hc]
    refine va_zald hC.1 hC.2.1 hC.2.2.2.2.2.2.1 hR.1 i 3 hg rfl q1 hd ?_
    rw [q2, q3]
    have hck := hR.2.2.1 i hi1
    rw [hs] at hck
    have hv : bc_i (h i ix) := by have := hck _ q4; rw [q3] at this; exact ⟨by omega, by omega⟩
    exact hx.2 cells slots H locs ad lsc (pcb + 1) hF h0 hR hS hL (bc_stcons (v := .inl (h i ix)) hv (fun v hv => hV v (List.mem_cons_of_mem _ (List.mem_cons_of_mem _ hv)))) hA hx1
  · exact False.elim hx
theorem bc_o_aaload (hC : bc_Cx g p s m args meth c k) (hi : (bc_code k)[idx]? = some .aaload) (hx : bc_wp (bc_s1 ph .aaload ls st h) (fun ls st h => bc_At g ph p l e R s m args below meth c Z k nq mc ms n0 ad0 (idx + 1) np ls st h)) : bc_At g ph p l e R s m args below meth c Z k nq mc ms n0 ad0 idx np ls st h := by
  simp only [bc_s1] at hx
  split at hx
  · rename_i ix n r st
    intro cells slots H locs ad lsc pcb hF h0 hR hS hL hV hA hp
    obtain ⟨hd, hx1⟩ := bc_row1 hC.2.2.2.2.2.2.2.2 hi hp (fun _ _ _ _ _ _ => rfl)
    obtain ⟨i, rfl, hi1, hs, hc, hg⟩ := bc_arr (g := g) (ad := ad) (h := h) (hV _ (List.mem_cons_of_mem _ List.mem_cons_self)) (by show 5 < 7; decide)
    have hsm := bc_sh_small i
    rw [hs] at hsm
    obtain ⟨q1, q2, q3, q4⟩ := bc_ix hx.1.1 hsm
    rw [List.map_cons, List.map_cons, hc]
    refine va_aldq hC.1 hC.2.1 hC.2.2.2.2.2.2.1 hR.1 i 4 hg rfl q1 hd ?_
    rw [q2, if_pos q4, q3, bc_rr_pos ad hx.1.2]
    have hck := hR.2.2.1 i hi1
    rw [hs] at hck
    have hv := (bc_fk_r (by show 0 < 7; decide)).mp (hck _ q4)
    rw [q3] at hv
    have kk := hx.2 cells slots H locs ad lsc (pcb + 1) hF h0 hR hS hL (bc_stcons (v := .inr (.inr ((0, 2), h i ix))) (Or.inr (Or.inr ⟨by show 0 < 7; decide, hx.1.2, hv hx.1.2⟩)) (fun v hv => hV v (List.mem_cons_of_mem _ (List.mem_cons_of_mem _ hv)))) hA hx1
    rw [List.map_cons, bc_cv_r ad (by show 0 < 7; decide)] at kk
    exact kk
  · rename_i ix n r st
    intro cells slots H locs ad lsc pcb hF h0 hR hS hL hV hA hp
    obtain ⟨hd, hx1⟩ := bc_row1 hC.2.2.2.2.2.2.2.2 hi hp (fun _ _ _ _ _ _ => rfl)
    obtain ⟨i, rfl, hi1, hs, hc, hg⟩ := bc_arr (g := g) (ad := ad) (h := h) (hV _ (List.mem_cons_of_mem _ List.mem_cons_self)) (by show 6 < 7; decide)
    have hsm := bc_sh_small i
    rw [hs] at hsm
    obtain ⟨q1, q2, q3, q4⟩ := bc_ix hx.1.1 hsm
    rw [List.map_cons, List.map_cons, hc]
    refine va_aldq hC.1 hC.2.1 hC.2.2.2.2.2.2.1 hR.1 i 5 hg rfl q1 hd ?_
    rw [q2, if_pos q4, q3, bc_rr_pos ad hx.1.2]
    have hck := hR.2.2.1 i hi1
    rw [hs] at hck
    have hv := (bc_fk_r (by show 0 < 7; decide)).mp (hck _ q4)
    rw [q3] at hv
    have kk := hx.2 cells slots H locs ad lsc (pcb + 1) hF h0 hR hS hL (bc_stcons (v := .inr (.inr ((0, 3), h i ix))) (Or.inr (Or.inr ⟨by show 0 < 7; decide, hx.1.2, hv hx.1.2⟩)) (fun v hv => hV v (List.mem_cons_of_mem _ (List.mem_cons_of_mem _ hv)))) hA hx1
    rw [List.map_cons, bc_cv_r ad (by show 0 < 7; decide)] at kk
    exact kk
  · exact False.elim hx
/-- an element written: the relation behind it -/
theorem bc_R_el {ad : Nat → Nat} {H H1 : Heap} {i : Nat} {ix x : Int} (hR : bc_R g ph ad h np H) (hi : i < np) (hn : (bc_sh i).1 ≠ 0) (hk : bc_ck np (bc_sh i) (bc_upd h i ix x i))
    (hP : va_P (bc_D g) vwCl ((bc_ws g ad h np).set i (ad i, bc_ce g ad (bc_sh i) (bc_upd h i ix x i))) H1) (hD : va_D (bc_A g) ((bc_ws g ad h np).set i (ad i, bc_ce g ad (bc_sh i) (bc_upd h i ix x i)))) : bc_R g ph ad (bc_upd h i ix x) np H1 :=
  bc_R_row hR hi (fun _ ha => bc_upd_ne ha) hk (fun _ c hc => absurd (congrArg Prod.fst hc) hn) hP hD
theorem bc_o_iastore (hC : bc_Cx g p s m args meth c k) (hi : (bc_code k)[idx]? = some .iastore) (hx : bc_wp (bc_s1 ph .iastore ls st h) (fun ls st h => bc_At g ph p l e R s m args below meth c Z k nq mc ms n0 ad0 (idx + 1) np ls st h)) : bc_At g ph p l e R s m args below meth c Z k nq mc ms n0 ad0 idx np ls st h := by
  simp only [bc_s1] at hx
  split at hx
  · rename_i x ix n r st
    intro cells slots H locs ad lsc pcb hF h0 hR hS hL hV hA hp
    obtain ⟨hd, hx1⟩ := bc_row1 hC.2.2.2.2.2.2.2.2 hi hp (fun _ _ _ _ _ _ => rfl)
    have hv0 := hV _ List.mem_cons_self
    obtain ⟨i, rfl, hi1, hs, hc, hg⟩ := bc_arr (g := g) (ad := ad) (h := h) (hV _ (List.mem_cons_of_mem _ (List.mem_cons_of_mem _ List.mem_cons_self))) (by show 1 < 7; decide)
    have hsm := bc_sh_small i
    rw [hs] at hsm
    obtain ⟨q1, q2, q3, q4⟩ := bc_ix hx.1 hsm
    rw [List.map_cons, List.map_cons, List.map_cons, hc]
    refine va_iast hC.1 hC.2.1 hC.2.2.2.2.2.2.1 hR.1 hR.2.1 hS i 0 hg rfl q1 hd (fun H1 locs1 hP hD hS1 => ?_)
    rw [q2, ← bc_up32 h i hx.1.1 x] at hP hD
    refine hx.2 cells slots H1 locs1 ad lsc (pcb + 1) hF h0 (bc_R_el hR hi1 (by rw [hs]; show 1 ≠ 0; decide) ?_ (by rw [hs]; exact hP) (by rw [hs]; exact hD)) hS1 hL (fun v hv => hV v (List.mem_cons_of_mem _ (List.mem_cons_of_mem _ (List.mem_cons_of_mem _ hv)))) hA hx1
    have hck := hR.2.2.1 i hi1
    rw [hs] at hck ⊢
    intro j hj
    rw [bc_upd_at]
    split
    · exact hv0
    · exact hck j hj
  · exact False.elim hx
theorem bc_o_lastore (hC : bc_Cx g p s m args meth c k) (hi : (bc_code k)[idx]? = some .lastore) (hx : bc_wp (bc_s1 ph .lastore ls st h) (fun ls st h => bc_At g ph p l e R s m args below meth c Z k nq mc ms n0 ad0 (idx + 1) np ls st h)) : bc_At g ph p l e R s m args below meth c Z k nq mc ms n0 ad0 idx np ls st h := by
  simp only [bc_s1] at hx
  split at hx
  · rename_i x ix n r st
    intro cells slots H locs ad lsc pcb hF h0 hR hS hL hV hA hp
    obtain ⟨hd, hx1⟩ := bc_row1 hC.2.2.2.2.2.2.2.2 hi hp (fun _ _ _ _ _ _ => rfl)
    have hv0 := hV _ List.mem_cons_self
    obtain ⟨i, rfl, hi1, hs, hc, hg⟩ := bc_arr (g := g) (ad := ad) (h := h) (hV _ (List.mem_cons_of_mem _ (List.mem_cons_of_mem _ List.mem_cons_self))) (by show 3 < 7; decide)
    have hsm := bc_sh_small i
    rw [hs] at hsm
    obtain ⟨q1, q2, q3, q4⟩ := bc_ix hx.1 hsm
    rw [List.map_cons, List.map_cons, List.map_cons, hc]
    refine va_last hC.1 hC.2.1 hC.2.2.2.2.2.2.1 hR.1 hR.2.1 hS i 2 hg rfl q1 hd (fun H1 locs1 hP hD hS1 => ?_)
    rw [q2, ← bc_up64 h i hx.1.1 x] at hP hD
    refine hx.2 cells slots H1 locs1 ad lsc (pcb + 1) hF h0 (bc_R_el hR hi1 (by rw [hs]; show 3 ≠ 0; decide) ?_ (by rw [hs]; exact hP) (by rw [hs]; exact hD)) hS1 hL (fun v hv => hV v (List.mem_cons_of_mem _ (List.mem_cons_of_mem _ (List.mem_cons_of_mem _ hv)))) hA hx1
    have hck := hR.2.2.1 i hi1
    rw [hs] at hck ⊢
    intro j hj
    rw [bc_upd_at]
    split
    · exact hv0
    · exact hck j hj
  · exact False.elim hx
theorem bc_o_bastore (hC : bc_Cx g p s m args meth c k) (hi : (bc_code k)[idx]? = some .bastore) (hx : bc_wp (bc_s1 ph .bastore ls st h) (fun ls st h => bc_At g ph p l e R s m args below meth c Z k nq mc ms n0 ad0 (idx + 1) np ls st h)) : bc_At g ph p l e R s m args below meth c Z k nq mc ms n0 ad0 idx np ls st h := by
  simp only [bc_s1] at hx
  split at hx
  · rename_i x ix n r st
    intro cells slots H locs ad lsc pcb hF h0 hR hS hL hV hA hp
    obtain ⟨hd, hx1⟩ := bc_row1 hC.2.2.2.2.2.2.2.2 hi hp (fun _ _ _ _ _ _ => rfl)
    have hv0 : bc_i x := hV _ List.mem_cons_self
    obtain ⟨i, rfl, hi1, hs, hc, hg⟩ := bc_arr (g := g) (ad := ad) (h := h) (hV _ (List.mem_cons_of_mem _ (List.mem_cons_of_mem _ List.mem_cons_self))) (by show 2 < 7; decide)
    have hsm := bc_sh_small i
    rw [hs] at hsm
    obtain ⟨q1, q2, q3, q4⟩ := bc_ix hx.1 hsm
    rw [List.map_cons, List.map_cons, List.map_cons, hc]
    refine va_bast hC.1 hC.2.1 hC.2.2.2.2.2.2.1 hR.1 hR.2.1 hS i 1 hg rfl q1 hd (fun H1 locs1 hP hD hS1 => ?_)
    rw [q2, vp_nar_byte, bc_i2b hv0, ← bc_up32 h i hx.1.1 (bc_w8 x)] at hP hD
    refine hx.2 cells slots H1 locs1 ad lsc (pcb + 1) hF h0 (bc_R_el hR hi1 (by rw [hs]; show 2 ≠ 0; decide) ?_ (by rw [hs]; exact hP) (by rw [hs]; exact hD)) hS1 hL (fun v hv => hV v (List.mem_cons_of_mem _ (List.mem_cons_of_mem _ (List.mem_cons_of_mem _ hv)))) hA hx1
    have hck := hR.2.2.1 i hi1
    rw [hs] at hck ⊢
    intro j hj
    rw [bc_upd_at]
    split
    · unfold bc_w8; omega
    · exact hck j hj
  · rename_i x ix n r st
    intro cells slots H locs ad lsc pcb hF h0 hR hS hL hV hA hp
    obtain ⟨hd, hx1⟩ := bc_row1 hC.2.2.2.2.2.2.2.2 hi hp (fun _ _ _ _ _ _ => rfl)
    have hv0 : bc_i x := hV _ List.mem_cons_self
    obtain ⟨i, rfl, hi1, hs, hc, hg⟩ := bc_arr (g := g) (ad := ad) (h := h) (hV _ (List.mem_cons_of_mem _ (List.mem_cons_of_mem _ List.mem_cons_self))) (by show 4 < 7; decide)
    have hsm := bc_sh_small i
    rw [hs] at hsm
    obtain ⟨q1, q2, q3, q4⟩ := bc_ix hx.1.1 hsm
    rw [List.map_cons, List.map_cons, List.map_cons, hc]
    refine va_zast hC.1 hC.2.1 hC.2.2.2.2.2.2.1 hR.1 hR.2.1 hS i 3 hg rfl q1 hd (fun H1 locs1 hP hD hS1 => ?_)
    have hz : vp_nar .boolean (Int32.ofInt x) = Int32.ofInt x := by rcases hx.1.2 with z | z <;> rw [z] <;> rfl
    rw [q2, hz, ← bc_up32 h i hx.1.1.1 x] at hP hD
    refine hx.2 cells slots H1 locs1 ad lsc (pcb + 1) hF h0 (bc_R_el hR hi1 (by rw [hs]; show 4 ≠ 0; decide) ?_ (by rw [hs]; exact hP) (by rw [hs]; exact hD)) hS1 hL (fun v hv => hV v (List.mem_cons_of_mem _ (List.mem_cons_of_mem _ (List.mem_cons_of_mem _ hv)))) hA hx1
    have hck := hR.2.2.1 i hi1
    rw [hs] at hck ⊢
    intro j hj
    rw [bc_upd_at]
    split
    · exact hx.1.2
    · exact hck j hj
  · exact False.elim hx
theorem bc_o_aastore (hC : bc_Cx g p s m args meth c k) (hi : (bc_code k)[idx]? = some .aastore) (hx : bc_wp (bc_s1 ph .aastore ls st h) (fun ls st h => bc_At g ph p l e R s m args below meth c Z k nq mc ms n0 ad0 (idx + 1) np ls st h)) : bc_At g ph p l e R s m args below meth c Z k nq mc ms n0 ad0 idx np ls st h := by
  simp only [bc_s1] at hx
  split at hx
  · rename_i x ix n r st
    intro cells slots H locs ad lsc pcb hF h0 hR hS hL hV hA hp
    obtain ⟨hd, hx1⟩ := bc_row1 hC.2.2.2.2.2.2.2.2 hi hp (fun _ _ _ _ _ _ => rfl)
    obtain ⟨xi, rfl, hxi, hxs, hxc, hxg⟩ := bc_arr (g := g) (ad := ad) (h := h) (hV _ List.mem_cons_self) (by show 0 < 7; decide)
    obtain ⟨i, rfl, hi1, hs, hc, hg⟩ := bc_arr (g := g) (ad := ad) (h := h) (hV _ (List.mem_cons_of_mem _ (List.mem_cons_of_mem _ List.mem_cons_self))) (by show 5 < 7; decide)
    have hsm := bc_sh_small i
    rw [hs] at hsm
    obtain ⟨q1, q2, q3, q4⟩ := bc_ix hx.1 hsm
    rw [List.map_cons, List.map_cons, List.map_cons, hc, hxc]
    refine va_astq (r := (RX2, TX2, 15)) hC.1 hC.2.1 hC.2.2.2.2.2.2.1 hR.1 hR.2.1 hS i 4 xi 2 hg rfl hxg rfl q1 hd (fun H1 locs1 hP hD hS1 => ?_)
    have hu := bc_upr ad h i hx.1.1 q4 (x := (xi : Int)) (by omega)
    rw [Int.toNat_natCast] at hu
    rw [q2, ← hu] at hP hD
    refine hx.2 cells slots H1 locs1 ad lsc (pcb + 1) hF h0 (bc_R_el hR hi1 (by rw [hs]; show 5 ≠ 0; decide) ?_ (by rw [hs]; exact hP) (by rw [hs]; exact hD)) hS1 hL (fun v hv => hV v (List.mem_cons_of_mem _ (List.mem_cons_of_mem _ (List.mem_cons_of_mem _ hv)))) hA hx1
    have hck := hR.2.2.1 i hi1
    rw [hs] at hck ⊢
    intro j hj
    rw [bc_upd_at]
    split
    · exact (bc_fk_r (by show 0 < 7; decide)).mpr (fun _ => ⟨hxi, hxs⟩)
    · exact hck j hj
  · rename_i x ix n r st
    intro cells slots H locs ad lsc pcb hF h0 hR hS hL hV hA hp
    obtain ⟨hd, hx1⟩ := bc_row1 hC.2.2.2.2.2.2.2.2 hi hp (fun _ _ _ _ _ _ => rfl)
    obtain ⟨xi, rfl, hxi, hxs, hxc, hxg⟩ := bc_arr (g := g) (ad := ad) (h := h) (hV _ List.mem_cons_self) (by show 0 < 7; decide)
    obtain ⟨i, rfl, hi1, hs, hc, hg⟩ := bc_arr (g := g) (ad := ad) (h := h) (hV _ (List.mem_cons_of_mem _ (List.mem_cons_of_mem _ List.mem_cons_self))) (by show 6 < 7; decide)
    have hsm := bc_sh_small i
    rw [hs] at hsm
    obtain ⟨q1, q2, q3, q4⟩ := bc_ix hx.1 hsm
    rw [List.map_cons, List.map_cons, List.map_cons, hc, hxc]
    refine va_astq (r := (RX3, TX3, 8)) hC.1 hC.2.1 hC.2.2.2.2.2.2.1 hR.1 hR.2.1 hS i 5 xi 3 hg rfl hxg rfl q1 hd (fun H1 locs1 hP hD hS1 => ?_)
    have hu := bc_upr ad h i hx.1.1 q4 (x := (xi : Int)) (by omega)
    rw [Int.toNat_natCast] at hu
    rw [q2, ← hu] at hP hD
    refine hx.2 cells slots H1 locs1 ad lsc (pcb + 1) hF h0 (bc_R_el hR hi1 (by rw [hs]; show 6 ≠ 0; decide) ?_ (by rw [hs]; exact hP) (by rw [hs]; exact hD)) hS1 hL (fun v hv => hV v (List.mem_cons_of_mem _ (List.mem_cons_of_mem _ (List.mem_cons_of_mem _ hv)))) hA hx1
    have hck := hR.2.2.1 i hi1
    rw [hs] at hck ⊢
    intro j hj
    rw [bc_upd_at]
    split
    · exact (bc_fk_r (by show 0 < 7; decide)).mpr (fun _ => ⟨hxi, hxs⟩)
    · exact hck j hj
  · exact False.elim hx
end BCA
end
section
/-! what lies outside the world stays -/
theorem bc_X_kept {g : bc_GG} {U : State} {H H1 : Heap} (h : bc_X g U H) (hz : H.size ≤ H1.size) (hq : ∀ a : Nat, a < H.size → ¬ bc_A g a → H1[a]? = H[a]?) : bc_X g U H1 := by
  obtain ⟨h1, h2, h3, h4, h5, h6, h7, h8, h9, h10, h11, h12⟩ := h
  exact ⟨h1.kept (hq _ (by omega) (by unfold bc_A; omega)), h2, by omega, h4, h5.kept hq, h6, h7, h8.kept hq, h9.kept hq, h10, h11, h12⟩
theorem bc_X_S {g : bc_GG} {s : State} {H : Heap} {locs : List Loc} (h : bc_X g s s.heap) (hS : va_S (bc_A g) s.heap H locs) : bc_X g s H := bc_X_kept h hS.1 hS.2.1
theorem bc_X_warm {g : bc_GG} {s U : State} {H : Heap} (hW : s.WarmedH U.vm) (h : bc_X g s H) : bc_X g U H := by
  obtain ⟨h1, h2, h3, h4, h5, h6, h7, h8, h9, h10, h11, h12⟩ := h
  exact ⟨h1.moved hW.alike, h2, h3, h4, h5.moved hW.alike, h6.warm hW, h7.warm hW, h8.moved hW.alike, h9.moved hW.alike, fun q hq => (h10 q hq).warmM hW, h11.moved hW.alike, h12.moved hW.alike⟩
theorem bc_X_same {g : bc_GG} {u U : State} {H : Heap} (hv : U.vm = u.vm) (h : bc_X g u H) : bc_X g U H := by
  obtain ⟨h1, h2, h3, h4, h5, h6, h7, h8, h9, h10, h11, h12⟩ := h
  have hA : u.vm.Alike U.vm := hv ▸ Vm.Alike.refl u.vm
  exact ⟨h1.moved hA, h2, h3, h4, h5.moved hA, h6.same hv, h7.same hv, h8.moved hA, h9.moved hA, fun q hq => (h10 q hq).same rfl hv.symm, h11.moved hA, h12.moved hA⟩
theorem bc_mem {w : Jvm.Cond} (q : Nat) (h : bc_lk q = some w) (hg : goodWord w = true) : w ∈ bc_T := List.mem_filter.mpr ⟨bc_lk_in h, hg⟩
theorem bc_good {L : List Jvm.Cond} (h : ∀ w ∈ L, w ∈ bc_T) : GoodIn bc_T L := fun w hw => ⟨h w hw, good_of_word (List.mem_filter.mp (h w hw)).2⟩
theorem bc_goodC {c : Jvm.Cond} (h : c ∈ bc_T) : GoodIn bc_T (c :: bc_T) := bc_good (fun w hw => by
  rcases List.mem_cons.mp hw with rfl | hw
  · exact h
  · exact hw)
def bc_QR (r : Option Value) : Array Value → State → Outcome → State → Prop := fun _ st o t => o = .returned r ∧ t.heap = st.heap
theorem bc_catsum {g : bc_GG} {ad : Nat → Nat} : ∀ st : bc_St, ((st.map (bc_cv g ad)).map (fun v => v.category)).sum = bc_cat st
  | [] => rfl
  | .inl x :: st => by
    show 1 + ((st.map (bc_cv g ad)).map (fun v => v.category)).sum = 1 + bc_cat st
    rw [bc_catsum st]
  | .inr (.inl x) :: st => by
    show 2 + ((st.map (bc_cv g ad)).map (fun v => v.category)).sum = 2 + bc_cat st
    rw [bc_catsum st]
  | .inr (.inr x) :: st => by
    show (bc_cv g ad (.inr (.inr x))).category + ((st.map (bc_cv g ad)).map (fun v => v.category)).sum = 1 + bc_cat st
    rw [bc_catsum st, bc_catr]
/-! the JDK's methods of String constants -/
abbrev bc_yLen : MethodName := ⟨"java/lang/String", "length", "()I"⟩
abbrev bc_yCoder : MethodName := ⟨"java/lang/String", "coder", "()B"⟩
abbrev bc_yChar : MethodName := ⟨"java/lang/String", "charAt", "(I)C"⟩
abbrev bc_yIs1 : MethodName := ⟨"java/lang/String", "isLatin1", "()Z"⟩
abbrev bc_yL1 : MethodName := ⟨"java/lang/StringLatin1", "charAt", "([BI)C"⟩
abbrev bc_yCkS : MethodName := ⟨"java/lang/String", "checkIndex", "(II)V"⟩
abbrev bc_yCkP : MethodName := ⟨"jdk/internal/util/Preconditions", "checkIndex", "(IILjava/util/function/BiFunction;)I"⟩
abbrev bc_bLen : ByteArray := prog_18_method_54_code
abbrev bc_bCoder : ByteArray := prog_18_method_152_code
abbrev bc_bChar : ByteArray := prog_18_method_56_code
abbrev bc_bIs1 : ByteArray := prog_18_method_154_code
abbrev bc_bL1 : ByteArray := prog_19_method_2_code
abbrev bc_bCkS : ByteArray := prog_18_method_155_code
abbrev bc_bCkP : ByteArray := prog_23_method_11_code
theorem bc_m59 : Cond.code bc_yLen bc_bLen 1 (some .int) ∈ bc_T := bc_mem 59 rfl rfl
theorem bc_m63 : Cond.code bc_yCoder bc_bCoder 1 (some .byte) ∈ bc_T := bc_mem 63 rfl rfl
theorem bc_m69 : Cond.code bc_yChar bc_bChar 2 (some .char) ∈ bc_T := bc_mem 69 rfl rfl
theorem bc_m73 : Cond.code bc_yIs1 bc_bIs1 1 (some .boolean) ∈ bc_T := bc_mem 73 rfl rfl
theorem bc_m76 : Cond.code bc_yL1 bc_bL1 2 (some .char) ∈ bc_T := bc_mem 76 rfl rfl
theorem bc_m79 : Cond.code bc_yCkS bc_bCkS 2 none ∈ bc_T := bc_mem 79 rfl rfl
theorem bc_m84 : Cond.code bc_yCkP bc_bCkP 3 (some .int) ∈ bc_T := bc_mem 84 rfl rfl
theorem bc_m57 : Cond.instanceMethod bc_yLen ∈ bc_T := bc_mem 57 rfl rfl
theorem bc_m58 : Cond.selects "java/lang/String" bc_yLen bc_yLen ∈ bc_T := bc_mem 58 rfl rfl
theorem bc_m67 : Cond.instanceMethod bc_yChar ∈ bc_T := bc_mem 67 rfl rfl
theorem bc_m68 : Cond.selects "java/lang/String" bc_yChar bc_yChar ∈ bc_T := bc_mem 68 rfl rfl
theorem bc_m60 : Cond.methodLink "java/lang/String" 335 bc_yCoder ∈ bc_T := bc_mem 60 rfl rfl
theorem bc_m61 : Cond.instanceMethod bc_yCoder ∈ bc_T := bc_mem 61 rfl rfl
theorem bc_m62 : Cond.selects "java/lang/String" bc_yCoder bc_yCoder ∈ bc_T := bc_mem 62 rfl rfl
theorem bc_m70 : Cond.methodLink "java/lang/String" 492 bc_yIs1 ∈ bc_T := bc_mem 70 rfl rfl
theorem bc_m71 : Cond.instanceMethod bc_yIs1 ∈ bc_T := bc_mem 71 rfl rfl
theorem bc_m72 : Cond.selects "java/lang/String" bc_yIs1 bc_yIs1 ∈ bc_T := bc_mem 72 rfl rfl
theorem bc_m74 : Cond.methodLink "java/lang/String" 495 bc_yL1 ∈ bc_T := bc_mem 74 rfl rfl
theorem bc_m75 : Cond.static bc_yL1 ∈ bc_T := bc_mem 75 rfl rfl
theorem bc_m77 : Cond.methodLink "java/lang/StringLatin1" 9 bc_yCkS ∈ bc_T := bc_mem 77 rfl rfl
theorem bc_m78 : Cond.static bc_yCkS ∈ bc_T := bc_mem 78 rfl rfl
theorem bc_m82 : Cond.methodLink "java/lang/String" 1059 bc_yCkP ∈ bc_T := bc_mem 82 rfl rfl
theorem bc_m83 : Cond.static bc_yCkP ∈ bc_T := bc_mem 83 rfl rfl
theorem bc_m4 : Cond.initialized "java/lang/String" ∈ bc_T := bc_mem 4 rfl rfl
theorem bc_m5 : Cond.initialized "java/lang/StringLatin1" ∈ bc_T := bc_mem 5 rfl rfl
theorem bc_m6 : Cond.initialized "jdk/internal/util/Preconditions" ∈ bc_T := bc_mem 6 rfl rfl
theorem bc_m64 : Cond.fieldLink "java/lang/String" 38 "java/lang/String" "COMPACT_STRINGS" "Z" ∈ bc_T := bc_mem 64 rfl rfl
theorem bc_m80 : Cond.fieldLink "java/lang/String" 1053 "jdk/internal/util/Preconditions" "SIOOBE_FORMATTER" "Ljava/util/function/BiFunction;" ∈ bc_T := bc_mem 80 rfl rfl
theorem bc_m9015 : Cond.fieldLink "java/lang/String" 9 "java/lang/String" "value" "[B" ∈ bc_T := bc_mem 9015 rfl rfl
theorem bc_m9016 : Cond.fieldLink "java/lang/String" 15 "java/lang/String" "coder" "B" ∈ bc_T := bc_mem 9016 rfl rfl
end
section
theorem bc_len3 {i n : Int32} {f : Value} (hf : f = .null ∨ ∃ t, f = .ref t) : (lg_sl [.int i, .int n, f]).length ≤ 3 := by
  rcases hf with rfl | ⟨t, rfl⟩ <;> exact Nat.le_of_ble_eq_true rfl
theorem bc_callVoid {p : Program} {l : Launch} {e : Env} {R : Room} {s : State} {m : MethodId} {args : Array Value} {below : List Frame} {meth : Method} {c : Code} {H : Heap} {locs : List Loc} {cells slots : Nat} {Q : State → Prop} {g : JFrame} {rest : List Value} {a : Array Value}
    (hr : CallRun p l e R s m args below meth c H locs cells slots 0 0 g rest (bc_QR none a) (fun _ => False)) (kk : W p l e R s m args below meth c H locs cells slots Q { g with pc := g.pc + 3, stack := rest }) : W p l e R s m args below meth c H locs cells slots Q g := by
  intro T hT X
  obtain ⟨v, st₀, t, T', L, h0, X', hL, e1, ⟨hv, hh⟩, st⟩ := hr T hT X
  cases hv
  obtain ⟨t2, a1, b1⟩ := kk T' (by rw [e1, hh, h0]) (Stand.forget X' (fun q h => (hL q h).elim))
  exact ⟨t2, st t2 a1, b1⟩
theorem bc_bytes : ∀ j, j < 2 → (bc_bytS.getD j []).all (fun b => decide (b &&& 255 = b) && decide ((b.toUInt32 % 65536).toInt32 = b) && decide (narrow .char (.int b) = .int b)) = true := by decide +kernel
theorem bc_lens : ∀ j, j < 2 → bc_lenS.getD j 0 = (bc_bytS.getD j []).length := by decide +kernel
theorem bc_chi {j i : Nat} (hj : j < 2) (hi : i < bc_lenS.getD j 0) : (bc_bytS.getD j []).getD i 0 ∈ bc_bytS.getD j [] := by
  rw [bc_lens j hj] at hi
  generalize bc_bytS.getD j [] = L at hi ⊢
  rw [List.getD_eq_getElem?_getD, List.getElem?_eq_getElem hi]
  exact List.getElem_mem hi
theorem bc_chr {j i : Nat} (hj : j < 2) (hi : i < bc_lenS.getD j 0) : (bc_bytS.getD j []).getD i 0 &&& 255 = (bc_bytS.getD j []).getD i 0 ∧ (((bc_bytS.getD j []).getD i 0).toUInt32 % 65536).toInt32 = (bc_bytS.getD j []).getD i 0 := by
  have h := List.all_eq_true.mp (bc_bytes j hj) _ (bc_chi hj hi)
  simp only [Bool.and_eq_true, decide_eq_true_eq] at h
  exact h.1
theorem bc_chn {j i : Nat} (hj : j < 2) (hi : i < bc_lenS.getD j 0) : narrow .char (.int ((bc_bytS.getD j []).getD i 0)) = .int ((bc_bytS.getD j []).getD i 0) := by
  have h := List.all_eq_true.mp (bc_bytes j hj) _ (bc_chi hj hi)
  simp only [Bool.and_eq_true, decide_eq_true_eq] at h
  exact h.2
theorem bc_dLen_0 : decode bc_bLen 0 = .ok (.aload_n 0, 1) := by decide +kernel
theorem bc_dLen_1 : decode bc_bLen 1 = .ok (.getfield 9, 3) := by decide +kernel
theorem bc_dLen_4 : decode bc_bLen 4 = .ok (.arraylength, 1) := by decide +kernel
theorem bc_dLen_5 : decode bc_bLen 5 = .ok (.aload_n 0, 1) := by decide +kernel
theorem bc_dLen_6 : decode bc_bLen 6 = .ok (.invokevirtual 335, 3) := by decide +kernel
theorem bc_dLen_9 : decode bc_bLen 9 = .ok (.ishr, 1) := by decide +kernel
theorem bc_dLen_10 : decode bc_bLen 10 = .ok (.ireturn, 1) := by decide +kernel
theorem bc_dCoder_0 : decode bc_bCoder 0 = .ok (.getstatic 38, 3) := by decide +kernel
theorem bc_dCoder_3 : decode bc_bCoder 3 = .ok (.ifCond .eq (10), 3) := by decide +kernel
theorem bc_dCoder_6 : decode bc_bCoder 6 = .ok (.aload_n 0, 1) := by decide +kernel
theorem bc_dCoder_7 : decode bc_bCoder 7 = .ok (.getfield 15, 3) := by decide +kernel
theorem bc_dCoder_10 : decode bc_bCoder 10 = .ok (.goto (4), 3) := by decide +kernel
theorem bc_dCoder_13 : decode bc_bCoder 13 = .ok (.iconst 1, 1) := by decide +kernel
theorem bc_dCoder_14 : decode bc_bCoder 14 = .ok (.ireturn, 1) := by decide +kernel
theorem bc_dChar_0 : decode bc_bChar 0 = .ok (.aload_n 0, 1) := by decide +kernel
theorem bc_dChar_1 : decode bc_bChar 1 = .ok (.invokevirtual 492, 3) := by decide +kernel
theorem bc_dChar_4 : decode bc_bChar 4 = .ok (.ifCond .eq (12), 3) := by decide +kernel
theorem bc_dChar_7 : decode bc_bChar 7 = .ok (.aload_n 0, 1) := by decide +kernel
theorem bc_dChar_8 : decode bc_bChar 8 = .ok (.getfield 9, 3) := by decide +kernel
theorem bc_dChar_11 : decode bc_bChar 11 = .ok (.iload_n 1, 1) := by decide +kernel
theorem bc_dChar_12 : decode bc_bChar 12 = .ok (.invokestatic 495, 3) := by decide +kernel
theorem bc_dChar_15 : decode bc_bChar 15 = .ok (.ireturn, 1) := by decide +kernel
theorem bc_dChar_16 : decode bc_bChar 16 = .ok (.aload_n 0, 1) := by decide +kernel
theorem bc_dChar_17 : decode bc_bChar 17 = .ok (.getfield 9, 3) := by decide +kernel
theorem bc_dChar_20 : decode bc_bChar 20 = .ok (.iload_n 1, 1) := by decide +kernel
theorem bc_dChar_21 : decode bc_bChar 21 = .ok (.invokestatic 498, 3) := by decide +kernel
theorem bc_dChar_24 : decode bc_bChar 24 = .ok (.ireturn, 1) := by decide +kernel
theorem bc_dIs1_0 : decode bc_bIs1 0 = .ok (.getstatic 38, 3) := by decide +kernel
theorem bc_dIs1_3 : decode bc_bIs1 3 = .ok (.ifCond .eq (14), 3) := by decide +kernel
theorem bc_dIs1_6 : decode bc_bIs1 6 = .ok (.aload_n 0, 1) := by decide +kernel
theorem bc_dIs1_7 : decode bc_bIs1 7 = .ok (.getfield 15, 3) := by decide +kernel
theorem bc_dIs1_10 : decode bc_bIs1 10 = .ok (.ifCond .ne (7), 3) := by decide +kernel
theorem bc_dIs1_13 : decode bc_bIs1 13 = .ok (.iconst 1, 1) := by decide +kernel
theorem bc_dIs1_14 : decode bc_bIs1 14 = .ok (.goto (4), 3) := by decide +kernel
theorem bc_dIs1_17 : decode bc_bIs1 17 = .ok (.iconst 0, 1) := by decide +kernel
theorem bc_dIs1_18 : decode bc_bIs1 18 = .ok (.ireturn, 1) := by decide +kernel
theorem bc_dL1_0 : decode bc_bL1 0 = .ok (.iload_n 1, 1) := by decide +kernel
theorem bc_dL1_1 : decode bc_bL1 1 = .ok (.aload_n 0, 1) := by decide +kernel
theorem bc_dL1_2 : decode bc_bL1 2 = .ok (.arraylength, 1) := by decide +kernel
theorem bc_dL1_3 : decode bc_bL1 3 = .ok (.invokestatic 9, 3) := by decide +kernel
theorem bc_dL1_6 : decode bc_bL1 6 = .ok (.aload_n 0, 1) := by decide +kernel
theorem bc_dL1_7 : decode bc_bL1 7 = .ok (.iload_n 1, 1) := by decide +kernel
theorem bc_dL1_8 : decode bc_bL1 8 = .ok (.baload, 1) := by decide +kernel
theorem bc_dL1_9 : decode bc_bL1 9 = .ok (.sipush 255, 3) := by decide +kernel
theorem bc_dL1_12 : decode bc_bL1 12 = .ok (.iand, 1) := by decide +kernel
theorem bc_dL1_13 : decode bc_bL1 13 = .ok (.i2c, 1) := by decide +kernel
theorem bc_dL1_14 : decode bc_bL1 14 = .ok (.ireturn, 1) := by decide +kernel
theorem bc_dCkS_0 : decode bc_bCkS 0 = .ok (.iload_n 0, 1) := by decide +kernel
theorem bc_dCkS_1 : decode bc_bCkS 1 = .ok (.iload_n 1, 1) := by decide +kernel
theorem bc_dCkS_2 : decode bc_bCkS 2 = .ok (.getstatic 1053, 3) := by decide +kernel
theorem bc_dCkS_5 : decode bc_bCkS 5 = .ok (.invokestatic 1059, 3) := by decide +kernel
theorem bc_dCkS_8 : decode bc_bCkS 8 = .ok (.pop, 1) := by decide +kernel
theorem bc_dCkS_9 : decode bc_bCkS 9 = .ok (.return_, 1) := by decide +kernel
theorem bc_dCkP_0 : decode bc_bCkP 0 = .ok (.iload_n 0, 1) := by decide +kernel
theorem bc_dCkP_1 : decode bc_bCkP 1 = .ok (.ifCond .lt (8), 3) := by decide +kernel
theorem bc_dCkP_4 : decode bc_bCkP 4 = .ok (.iload_n 0, 1) := by decide +kernel
theorem bc_dCkP_5 : decode bc_bCkP 5 = .ok (.iload_n 1, 1) := by decide +kernel
theorem bc_dCkP_6 : decode bc_bCkP 6 = .ok (.if_icmp .lt (10), 3) := by decide +kernel
theorem bc_dCkP_16 : decode bc_bCkP 16 = .ok (.iload_n 0, 1) := by decide +kernel
theorem bc_dCkP_17 : decode bc_bCkP 17 = .ok (.ireturn, 1) := by decide +kernel
set_option maxHeartbeats 4000000 in
set_option maxRecDepth 100000 in
theorem bc_jCkP (l : Launch) (g : bc_GG) {i n : Int32} {f : Value} (hf : f = .null ∨ ∃ t, f = .ref t) (h0 : ¬ i < 0) (h1 : i < n) : Met l bc_yCkP (Cond.code bc_yCkP bc_bCkP 3 (some .int) :: bc_T) ({ frames := 0, cells := 0, slots := 0, locals := 0 }) (va_Pc ([.int i, .int n, f]) (fun U => bc_X g U U.heap)) (bc_QR (some (.int i))) 0 0 (fun _ => False) := by
  refine Met.ofW (cc := bc_bCkP) (maxL := 3) (ret := some .int) (by decide) rfl ?_
  intro p e s m args below meth c s₁ B hml hv
  obtain ⟨rfl, hX⟩ := hv
  have hx := B.exec
  have hb := B.bytes
  have hr := B.returns
  have hts0 := atoms_spec (ws := Cond.code bc_yCkP bc_bCkP 3 (some .int) :: bc_T) B.pre
  have hts : ∀ w ∈ bc_T, w.before ([.int i, .int n, f] : List Value).toArray s = true := fun w h => hts0 w (List.mem_cons_of_mem _ h)
  have hown : s.vm.findClass "jdk/internal/util/Preconditions" = some m.cls := findClass_of_methodNamed B.named
  have hlocks := B.notSynchronized
  have hS : va_S (bc_A g) s.heap s.heap [] := va_S.rf
  have hl := lv_entry ([.int i, .int n, f]) (n := 3) (bc_len3 hf)
  rw [lg_entry_eq]
  generalize (lg_sl ([.int i, .int n, f]) ++ List.replicate (3 - (lg_sl ([.int i, .int n, f])).length) Slot.unset).toArray = ls at hl ⊢
  have hl : lv_has ls 3 [(0, .int i), (1, .int n), (2, f)] := hl
  refine lv_iload_n hx hb bc_dCkP_0 rfl (lv_at hl 0 rfl) ?_
  refine lv_if_lt (tgt := 9) hx hb bc_dCkP_1 (by decide) (fun q => absurd q h0) (fun _ => ?_)
  refine lv_iload_n hx hb bc_dCkP_4 rfl (lv_at hl 0 rfl) ?_
  refine lv_iload_n hx hb bc_dCkP_5 rfl (lv_at hl 1 rfl) ?_
  refine lv_icmp_lt (tgt := 16) hx hb bc_dCkP_6 (by decide) (fun _ => ?_) (fun q => absurd h1 q)
  refine lv_iload_n hx hb bc_dCkP_16 rfl (lv_at hl 0 rfl) ?_
  exact W.iret hx hb hr (fun t ht hW => ⟨rfl, ht⟩) (fun _ h => by cases h) bc_dCkP_17
set_option maxHeartbeats 4000000 in
set_option maxRecDepth 100000 in
theorem bc_jCkS (l : Launch) (g : bc_GG) {i n : Int32} (h0 : ¬ i < 0) (h1 : i < n) : Met l bc_yCkS (Cond.code bc_yCkS bc_bCkS 2 (none) :: bc_T) ({ frames := 1, cells := 0, slots := 0, locals := 40 }) (va_Pc ([.int i, .int n]) (fun U => bc_X g U U.heap)) (bc_QR (none)) 0 0 (fun _ => False) := by
  refine Met.ofW (cc := bc_bCkS) (maxL := 2) (ret := none) (by decide) rfl ?_
  intro p e s m args below meth c s₁ B hml hv
  obtain ⟨rfl, hX⟩ := hv
  have hx := B.exec
  have hb := B.bytes
  have hr := B.returns
  have hts0 := atoms_spec (ws := Cond.code bc_yCkS bc_bCkS 2 (none) :: bc_T) B.pre
  have hts : ∀ w ∈ bc_T, w.before ([.int i, .int n] : List Value).toArray s = true := fun w h => hts0 w (List.mem_cons_of_mem _ h)
  have hown : s.vm.findClass "java/lang/String" = some m.cls := findClass_of_methodNamed B.named
  have hlocks := B.notSynchronized
  have hS : va_S (bc_A g) s.heap s.heap [] := va_S.rf
  have hl := lv_entry ([.int i, .int n]) (n := 2) (Nat.le_of_ble_eq_true rfl)
  rw [lg_entry_eq]
  generalize (lg_sl ([.int i, .int n]) ++ List.replicate (2 - (lg_sl ([.int i, .int n])).length) Slot.unset).toArray = ls at hl ⊢
  have hl : lv_has ls 2 [(0, .int i), (1, .int n)] := hl
  refine lv_iload_n hx hb bc_dCkS_0 rfl (lv_at hl 0 rfl) ?_
  refine lv_iload_n hx hb bc_dCkS_1 rfl (lv_at hl 1 rfl) ?_
  have fin : ∀ f : Value, (f = .null ∨ ∃ t, f = .ref t) → W p l e (headSpec (Cond.code bc_yCkS bc_bCkS 2 none :: bc_T) { frames := 1, cells := 0, slots := 0, locals := 40 }).room s m ([.int i, .int n] : List Value).toArray below meth c s.heap [] 0 0 (MQ below (bc_QR none) ([.int i, .int n] : List Value).toArray s 0 0 (fun _ => False)) (F0 m 5 ls [f, .int n, .int i]) := by
    intro f hf
    refine W.callR (r := i) (W.runS (As := [.int i, .int n, f]) (rest := []) (own := "java/lang/String") (n := 3) ⟨hx, hb, hml, hown, hts⟩ (bc_jCkP l g hf h0 h1) ⟨callB_of (own := "java/lang/String") (index := 1059) 3 hts (bc_goodC bc_m84) rfl rfl rfl (hts _ bc_m6) (hts _ bc_m82) (by decide +kernel) ⟨Nat.le_of_ble_eq_true rfl, Nat.le_of_ble_eq_true rfl⟩, hts _ bc_m83⟩ ⟨fun a U g2 mk q => ⟨q.1, bc_X_same rfl q.2⟩, fun U hU hW => ⟨rfl, by show bc_X g U U.heap; rw [hU]; exact bc_X_warm hW hX⟩⟩ rfl rfl hl.1 rfl (lv_room (Nat.le_of_ble_eq_true rfl)) bc_dCkS_5 ⟨Nat.le_refl 0, Nat.le_refl 0⟩) ?_
    refine W.eq (g2 := F0 m 8 ls [.int i]) rfl ?_
    refine lv_pop hx hb bc_dCkS_8 rfl ?_
    exact W.vret hx hb hr (fun t ht hW => ⟨rfl, ht⟩) (fun _ h => by cases h) bc_dCkS_9
  have hZ := hX.2.2.2.2.2.2.2.2.1
  rcases hZ with hZ | ⟨t, hZ⟩
  · exact va_gets hx hb hZ hS hown (hts _ bc_m80) (fun _ h => h) bc_dCkS_2 (fin .null (Or.inl rfl))
  · exact va_gets hx hb hZ hS hown (hts _ bc_m80) (fun _ h => h) bc_dCkS_2 (fin (.ref t) (Or.inr ⟨t, rfl⟩))
set_option maxHeartbeats 4000000 in
set_option maxRecDepth 100000 in
theorem bc_jCoder (l : Launch) (g : bc_GG) {j : Nat} (hj : j < 2) : Met l bc_yCoder (Cond.code bc_yCoder bc_bCoder 1 (some .byte) :: bc_T) ({ frames := 0, cells := 0, slots := 0, locals := 0 }) (va_Pc ([.ref (bc_aK g j)]) (fun U => bc_X g U U.heap)) (bc_QR (some (.int 0))) 0 0 (fun _ => False) := by
  refine Met.ofW (cc := bc_bCoder) (maxL := 1) (ret := some .byte) (by decide) rfl ?_
  intro p e s m args below meth c s₁ B hml hv
  obtain ⟨rfl, hX⟩ := hv
  have hx := B.exec
  have hb := B.bytes
  have hr := B.returns
  have hts0 := atoms_spec (ws := Cond.code bc_yCoder bc_bCoder 1 (some .byte) :: bc_T) B.pre
  have hts : ∀ w ∈ bc_T, w.before ([.ref (bc_aK g j)] : List Value).toArray s = true := fun w h => hts0 w (List.mem_cons_of_mem _ h)
  have hown : s.vm.findClass "java/lang/String" = some m.cls := findClass_of_methodNamed B.named
  have hlocks := B.notSynchronized
  have hS : va_S (bc_A g) s.heap s.heap [] := va_S.rf
  have hl := lv_entry ([.ref (bc_aK g j)]) (n := 1) (Nat.le_of_ble_eq_true rfl)
  rw [lg_entry_eq]
  generalize (lg_sl ([.ref (bc_aK g j)]) ++ List.replicate (1 - (lg_sl ([.ref (bc_aK g j)])).length) Slot.unset).toArray = ls at hl ⊢
  have hl : lv_has ls 1 [(0, .ref (bc_aK g j))] := hl
  have hZ := hX.2.2.2.2.2.2.2.1
  have hE := (hX.2.2.2.2.1.1 j hj).2.1
  refine va_gets hx hb hZ hS hown (hts _ bc_m64) (fun _ h => h) bc_dCoder_0 ?_
  refine lv_if_eq (tgt := 13) hx hb bc_dCoder_3 (by decide) (fun q => absurd q (by decide)) (fun _ => ?_)
  refine lv_aload_n hx hb bc_dCoder_6 rfl (lv_at hl 0 rfl) ?_
  refine vk_getf hx hb hE hS hown (hts _ bc_m9016) (fun _ h => h) bc_dCoder_7 ?_
  refine lv_goto (tgt := 14) hx hb bc_dCoder_10 (by decide) ?_
  exact W.zret hx hb hr rfl (fun t ht hW => ⟨rfl, ht⟩) (fun _ h => by cases h) bc_dCoder_14
set_option maxHeartbeats 4000000 in
set_option maxRecDepth 100000 in
theorem bc_jIs1 (l : Launch) (g : bc_GG) {j : Nat} (hj : j < 2) : Met l bc_yIs1 (Cond.code bc_yIs1 bc_bIs1 1 (some .boolean) :: bc_T) ({ frames := 0, cells := 0, slots := 0, locals := 0 }) (va_Pc ([.ref (bc_aK g j)]) (fun U => bc_X g U U.heap)) (bc_QR (some (.int 1))) 0 0 (fun _ => False) := by
  refine Met.ofW (cc := bc_bIs1) (maxL := 1) (ret := some .boolean) (by decide) rfl ?_
  intro p e s m args below meth c s₁ B hml hv
  obtain ⟨rfl, hX⟩ := hv
  have hx := B.exec
  have hb := B.bytes
  have hr := B.returns
  have hts0 := atoms_spec (ws := Cond.code bc_yIs1 bc_bIs1 1 (some .boolean) :: bc_T) B.pre
  have hts : ∀ w ∈ bc_T, w.before ([.ref (bc_aK g j)] : List Value).toArray s = true := fun w h => hts0 w (List.mem_cons_of_mem _ h)
  have hown : s.vm.findClass "java/lang/String" = some m.cls := findClass_of_methodNamed B.named
  have hlocks := B.notSynchronized
  have hS : va_S (bc_A g) s.heap s.heap [] := va_S.rf
  have hl := lv_entry ([.ref (bc_aK g j)]) (n := 1) (Nat.le_of_ble_eq_true rfl)
  rw [lg_entry_eq]
  generalize (lg_sl ([.ref (bc_aK g j)]) ++ List.replicate (1 - (lg_sl ([.ref (bc_aK g j)])).length) Slot.unset).toArray = ls at hl ⊢
  have hl : lv_has ls 1 [(0, .ref (bc_aK g j))] := hl
  have hZ := hX.2.2.2.2.2.2.2.1
  have hE := (hX.2.2.2.2.1.1 j hj).2.1
  refine va_gets hx hb hZ hS hown (hts _ bc_m64) (fun _ h => h) bc_dIs1_0 ?_
  refine lv_if_eq (tgt := 17) hx hb bc_dIs1_3 (by decide) (fun q => absurd q (by decide)) (fun _ => ?_)
  refine lv_aload_n hx hb bc_dIs1_6 rfl (lv_at hl 0 rfl) ?_
  refine vk_getf hx hb hE hS hown (hts _ bc_m9016) (fun _ h => h) bc_dIs1_7 ?_
  refine lv_if_ne (tgt := 17) hx hb bc_dIs1_10 (by decide) (fun q => absurd rfl q) (fun _ => ?_)
  refine lv_iconst (v := 1) hx hb bc_dIs1_13 (by decide) ?_
  refine lv_goto (tgt := 18) hx hb bc_dIs1_14 (by decide) ?_
  exact W.zret hx hb hr rfl (fun t ht hW => ⟨rfl, ht⟩) (fun _ h => by cases h) bc_dIs1_18
set_option maxHeartbeats 4000000 in
set_option maxRecDepth 100000 in
theorem bc_jLen (l : Launch) (g : bc_GG) {j : Nat} (hj : j < 2) : Met l bc_yLen (Cond.code bc_yLen bc_bLen 1 (some .int) :: bc_T) ({ frames := 1, cells := 0, slots := 0, locals := 40 }) (va_Pc ([.ref (bc_aK g j)]) (fun U => bc_X g U U.heap)) (bc_QR (some (.int (Int32.ofNat (bc_lenS.getD j 0))))) 0 0 (fun _ => False) := by
  refine Met.ofW (cc := bc_bLen) (maxL := 1) (ret := some .int) (by decide) rfl ?_
  intro p e s m args below meth c s₁ B hml hv
  obtain ⟨rfl, hX⟩ := hv
  have hx := B.exec
  have hb := B.bytes
  have hr := B.returns
  have hts0 := atoms_spec (ws := Cond.code bc_yLen bc_bLen 1 (some .int) :: bc_T) B.pre
  have hts : ∀ w ∈ bc_T, w.before ([.ref (bc_aK g j)] : List Value).toArray s = true := fun w h => hts0 w (List.mem_cons_of_mem _ h)
  have hown : s.vm.findClass "java/lang/String" = some m.cls := findClass_of_methodNamed B.named
  have hlocks := B.notSynchronized
  have hS : va_S (bc_A g) s.heap s.heap [] := va_S.rf
  have hl := lv_entry ([.ref (bc_aK g j)]) (n := 1) (Nat.le_of_ble_eq_true rfl)
  rw [lg_entry_eq]
  generalize (lg_sl ([.ref (bc_aK g j)]) ++ List.replicate (1 - (lg_sl ([.ref (bc_aK g j)])).length) Slot.unset).toArray = ls at hl ⊢
  have hl : lv_has ls 1 [(0, .ref (bc_aK g j))] := hl
  have hE := hX.2.2.2.2.1.1 j hj
  refine lv_aload_n hx hb bc_dLen_0 rfl (lv_at hl 0 rfl) ?_
  refine vk_getf hx hb hE.2.2.1 hS hown (hts _ bc_m9015) (fun _ h => h) bc_dLen_1 ?_
  refine va_tlen hx hb hE.2.2.2 hS rfl bc_dLen_4 ?_
  refine lv_aload_n hx hb bc_dLen_5 rfl (lv_at hl 0 rfl) ?_
  refine W.callR (r := 0) (W.runV (As := []) (rest := [.int (Int32.ofNat (bc_lenS.getD j 0))]) (own := "java/lang/String") (C := "java/lang/String") (n := 0) ⟨hx, hb, hml, hown, hts⟩ (bc_jCoder l g hj) ⟨callB_of (own := "java/lang/String") (index := 335) 0 hts (bc_goodC bc_m63) rfl rfl rfl (hts _ bc_m4) (hts _ bc_m60) (by decide +kernel) ⟨Nat.le_of_ble_eq_true rfl, Nat.le_of_ble_eq_true rfl⟩, hts _ bc_m61, hts _ bc_m62⟩ ⟨fun a U g2 mk q => ⟨q.1, bc_X_same rfl q.2⟩, vk_recv hX.2.2.2.2.1 hj hS, fun U hU hW => ⟨rfl, by show bc_X g U U.heap; rw [hU]; exact bc_X_warm hW hX⟩⟩ rfl rfl hl.1 rfl (lv_room (Nat.le_of_ble_eq_true rfl)) bc_dLen_6 ⟨Nat.le_refl 0, Nat.le_refl 0⟩) ?_
  refine W.eq (g2 := F0 m 9 ls [.int 0, .int (Int32.ofNat (bc_lenS.getD j 0))]) rfl ?_
  refine lv_ishr hx hb bc_dLen_9 ?_
  rw [sb_shr0]
  exact W.iret hx hb hr (fun t ht hW => ⟨rfl, ht⟩) (fun _ h => by cases h) bc_dLen_10
set_option maxHeartbeats 4000000 in
set_option maxRecDepth 100000 in
theorem bc_jL1 (l : Launch) (g : bc_GG) {j i : Nat} (hj : j < 2) (hi : i < bc_lenS.getD j 0) : Met l bc_yL1 (Cond.code bc_yL1 bc_bL1 2 (some .char) :: bc_T) ({ frames := 2, cells := 0, slots := 0, locals := 80 }) (va_Pc ([.ref (bc_aV g j), .int (nI i)]) (fun U => bc_X g U U.heap)) (bc_QR (some (.int ((bc_bytS.getD j []).getD i 0)))) 0 0 (fun _ => False) := by
  refine Met.ofW (cc := bc_bL1) (maxL := 2) (ret := some .char) (by decide) rfl ?_
  intro p e s m args below meth c s₁ B hml hv
  obtain ⟨rfl, hX⟩ := hv
  have hx := B.exec
  have hb := B.bytes
  have hr := B.returns
  have hts0 := atoms_spec (ws := Cond.code bc_yL1 bc_bL1 2 (some .char) :: bc_T) B.pre
  have hts : ∀ w ∈ bc_T, w.before ([.ref (bc_aV g j), .int (nI i)] : List Value).toArray s = true := fun w h => hts0 w (List.mem_cons_of_mem _ h)
  have hown : s.vm.findClass "java/lang/StringLatin1" = some m.cls := findClass_of_methodNamed B.named
  have hlocks := B.notSynchronized
  have hS : va_S (bc_A g) s.heap s.heap [] := va_S.rf
  have hl := lv_entry ([.ref (bc_aV g j), .int (nI i)]) (n := 2) (Nat.le_of_ble_eq_true rfl)
  rw [lg_entry_eq]
  generalize (lg_sl ([.ref (bc_aV g j), .int (nI i)]) ++ List.replicate (2 - (lg_sl ([.ref (bc_aV g j), .int (nI i)])).length) Slot.unset).toArray = ls at hl ⊢
  have hl : lv_has ls 2 [(0, .ref (bc_aV g j)), (1, .int (nI i))] := hl
  have hE := hX.2.2.2.2.1.1 j hj
  have hn : bc_lenS.getD j 0 < 2 ^ 31 := by
    match j, hj with
    | 0, _ => decide +kernel
    | 1, _ => decide +kernel
  have h0 : ¬ nI i < 0 := nI_pos (by omega)
  have h1 : nI i < Int32.ofNat (bc_lenS.getD j 0) := nI_lt hi hn
  refine lv_iload_n hx hb bc_dL1_0 rfl (lv_at hl 1 rfl) ?_
  refine lv_aload_n hx hb bc_dL1_1 rfl (lv_at hl 0 rfl) ?_
  refine va_tlen hx hb hE.2.2.2 hS rfl bc_dL1_2 ?_
  refine bc_callVoid (W.runS (As := [.int (nI i), .int (Int32.ofNat (bc_lenS.getD j 0))]) (rest := []) (own := "java/lang/StringLatin1") (n := 2) ⟨hx, hb, hml, hown, hts⟩ (bc_jCkS l g h0 h1) ⟨callB_of (own := "java/lang/StringLatin1") (index := 9) 2 hts (bc_goodC bc_m79) rfl rfl rfl (hts _ bc_m4) (hts _ bc_m77) (by decide +kernel) ⟨Nat.le_of_ble_eq_true rfl, Nat.le_of_ble_eq_true rfl⟩, hts _ bc_m78⟩ ⟨fun a U g2 mk q => ⟨q.1, bc_X_same rfl q.2⟩, fun U hU hW => ⟨rfl, by show bc_X g U U.heap; rw [hU]; exact bc_X_warm hW hX⟩⟩ rfl rfl hl.1 rfl (lv_room (Nat.le_of_ble_eq_true rfl)) bc_dL1_3 ⟨Nat.le_refl 0, Nat.le_refl 0⟩) ?_
  refine W.eq (g2 := F0 m 6 ls []) rfl ?_
  refine lv_aload_n hx hb bc_dL1_6 rfl (lv_at hl 0 rfl) ?_
  refine lv_iload_n hx hb bc_dL1_7 rfl (lv_at hl 1 rfl) ?_
  refine va_tb hx hb hE.2.2.2 hS (vp_in_nI hi hn) rfl bc_dL1_8 ?_
  rw [nI_clamp (by omega)]
  refine lv_sipush (v := 255) hx hb bc_dL1_9 (by decide) ?_
  refine lv_iand hx hb bc_dL1_12 ?_
  obtain ⟨q1, q2⟩ := bc_chr hj hi
  rw [q1]
  refine lv_i2c hx hb bc_dL1_13 q2 ?_
  refine W.zret hx hb hr ?_ (fun t ht hW => ⟨rfl, ht⟩) (fun _ h => by cases h) bc_dL1_14
  exact bc_chn hj hi
set_option maxHeartbeats 4000000 in
set_option maxRecDepth 100000 in
theorem bc_jChar (l : Launch) (g : bc_GG) {j i : Nat} (hj : j < 2) (hi : i < bc_lenS.getD j 0) : Met l bc_yChar (Cond.code bc_yChar bc_bChar 2 (some .char) :: bc_T) ({ frames := 3, cells := 0, slots := 0, locals := 120 }) (va_Pc ([.ref (bc_aK g j), .int (nI i)]) (fun U => bc_X g U U.heap)) (bc_QR (some (.int ((bc_bytS.getD j []).getD i 0)))) 0 0 (fun _ => False) := by
  refine Met.ofW (cc := bc_bChar) (maxL := 2) (ret := some .char) (by decide) rfl ?_
  intro p e s m args below meth c s₁ B hml hv
  obtain ⟨rfl, hX⟩ := hv
  have hx := B.exec
  have hb := B.bytes
  have hr := B.returns
  have hts0 := atoms_spec (ws := Cond.code bc_yChar bc_bChar 2 (some .char) :: bc_T) B.pre
  have hts : ∀ w ∈ bc_T, w.before ([.ref (bc_aK g j), .int (nI i)] : List Value).toArray s = true := fun w h => hts0 w (List.mem_cons_of_mem _ h)
  have hown : s.vm.findClass "java/lang/String" = some m.cls := findClass_of_methodNamed B.named
  have hlocks := B.notSynchronized
  have hS : va_S (bc_A g) s.heap s.heap [] := va_S.rf
  have hl := lv_entry ([.ref (bc_aK g j), .int (nI i)]) (n := 2) (Nat.le_of_ble_eq_true rfl)
  rw [lg_entry_eq]
  generalize (lg_sl ([.ref (bc_aK g j), .int (nI i)]) ++ List.replicate (2 - (lg_sl ([.ref (bc_aK g j), .int (nI i)])).length) Slot.unset).toArray = ls at hl ⊢
  have hl : lv_has ls 2 [(0, .ref (bc_aK g j)), (1, .int (nI i))] := hl
  have hE := hX.2.2.2.2.1.1 j hj
  refine lv_aload_n hx hb bc_dChar_0 rfl (lv_at hl 0 rfl) ?_
  refine W.callR (r := 1) (W.runV (As := []) (rest := []) (own := "java/lang/String") (C := "java/lang/String") (n := 0) ⟨hx, hb, hml, hown, hts⟩ (bc_jIs1 l g hj) ⟨callB_of (own := "java/lang/String") (index := 492) 0 hts (bc_goodC bc_m73) rfl rfl rfl (hts _ bc_m4) (hts _ bc_m70) (by decide +kernel) ⟨Nat.le_of_ble_eq_true rfl, Nat.le_of_ble_eq_true rfl⟩, hts _ bc_m71, hts _ bc_m72⟩ ⟨fun a U g2 mk q => ⟨q.1, bc_X_same rfl q.2⟩, vk_recv hX.2.2.2.2.1 hj hS, fun U hU hW => ⟨rfl, by show bc_X g U U.heap; rw [hU]; exact bc_X_warm hW hX⟩⟩ rfl rfl hl.1 rfl (lv_room (Nat.le_of_ble_eq_true rfl)) bc_dChar_1 ⟨Nat.le_refl 0, Nat.le_refl 0⟩) ?_
  refine W.eq (g2 := F0 m 4 ls [.int 1]) rfl ?_
  refine lv_if_eq (tgt := 16) hx hb bc_dChar_4 (by decide) (fun q => absurd q (by decide)) (fun _ => ?_)
  refine lv_aload_n hx hb bc_dChar_7 rfl (lv_at hl 0 rfl) ?_
  refine vk_getf hx hb hE.2.2.1 hS hown (hts _ bc_m9015) (fun _ h => h) bc_dChar_8 ?_
  refine lv_iload_n hx hb bc_dChar_11 rfl (lv_at hl 1 rfl) ?_
  refine W.callR (r := (bc_bytS.getD j []).getD i 0) (W.runS (As := [.ref (bc_aV g j), .int (nI i)]) (rest := []) (own := "java/lang/String") (n := 2) ⟨hx, hb, hml, hown, hts⟩ (bc_jL1 l g hj hi) ⟨callB_of (own := "java/lang/String") (index := 495) 2 hts (bc_goodC bc_m76) rfl rfl rfl (hts _ bc_m5) (hts _ bc_m74) (by decide +kernel) ⟨Nat.le_of_ble_eq_true rfl, Nat.le_of_ble_eq_true rfl⟩, hts _ bc_m75⟩ ⟨fun a U g2 mk q => ⟨q.1, bc_X_same rfl q.2⟩, fun U hU hW => ⟨rfl, by show bc_X g U U.heap; rw [hU]; exact bc_X_warm hW hX⟩⟩ rfl rfl hl.1 rfl (lv_room (Nat.le_of_ble_eq_true rfl)) bc_dChar_12 ⟨Nat.le_refl 0, Nat.le_refl 0⟩) ?_
  refine W.eq (g2 := F0 m 15 ls [.int ((bc_bytS.getD j []).getD i 0)]) rfl ?_
  exact W.zret hx hb hr (bc_chn hj hi) (fun t ht hW => ⟨rfl, ht⟩) (fun _ h => by cases h) bc_dChar_15
end
section
theorem bc_strs : ∀ j, j < 2 → bc_bytS.getD j [] = (bc_str j).map Int32.ofInt ∧ bc_lenS.getD j 0 = (bc_str j).length ∧ (bc_str j).length < 1000 ∧ (bc_str j).all (fun b => decide (0 ≤ b ∧ b < 128)) = true
  | 0, _ => ⟨rfl, rfl, by decide +kernel, by decide +kernel⟩
  | 1, _ => ⟨rfl, rfl, by decide +kernel, by decide +kernel⟩
  | n + 2, h => absurd h (by omega)
theorem bc_getDm (L : List Int) (i : Nat) : (L.map Int32.ofInt).getD i 0 = Int32.ofInt (L.getD i 0) := by
  rw [List.getD_eq_getElem?_getD, List.getD_eq_getElem?_getD, List.getElem?_map]
  cases L[i]? <;> rfl
theorem bc_chI {j : Nat} (hj : j < 2) (i : Nat) : bc_i ((bc_str j).getD i 0) := by
  rw [List.getD_eq_getElem?_getD]
  cases h : (bc_str j)[i]? with
  | none => exact ⟨by decide, by decide⟩
  | some v =>
    have h1 := List.all_eq_true.mp (bc_strs j hj).2.2.2 v (List.mem_of_getElem? h)
    rw [decide_eq_true_eq] at h1
    exact ⟨by show _ ≤ v; omega, by show v < _; omega⟩
theorem bc_s8 {np j : Nat} {x : Int} (h : bc_vo np (.inr (.inr ((8, j), x)))) : j < 2 := by
  rcases h with h | h | h
  · dsimp only at h; omega
  · exact h.2
  · have := h.1; dsimp only at this; omega
section BCB
variable {g : bc_GG} {ph : Bool} {p : Program} {l : Launch} {e : Env} {R : Room} {s : State} {m : MethodId} {args : Array Value} {below : List Frame} {meth : Method} {c : Code} {Z : State → Prop} {k nq mc ms n0 : Nat} {ad0 : Nat → Nat} {idx np : Nat} {ls : bc_L} {st : bc_St} {h : bc_H}
theorem bc_o_ret0 (hC : bc_Cx g p s m args meth c k) (hRm : 8 ≤ R.frames ∧ 400 ≤ R.locals) (hi : (bc_code k)[idx]? = some (.ret 0)) (hx : bc_wp (bc_s1 ph (.ret 0) ls st h) (fun ls st h => bc_At g ph p l e R s m args below meth c Z k nq mc ms n0 ad0 (idx + 1) np ls st h)) : bc_At g ph p l e R s m args below meth c Z k nq mc ms n0 ad0 idx np ls st h := by
  simp only [bc_s1] at hx
  cases hcat : Nat.ble (bc_cat st) (bc_lim 0) with
  | false => rw [hcat] at hx; exact False.elim hx
  | true =>
    rw [hcat] at hx
    change bc_wp (bc_b0 ls st h) _ at hx
    unfold bc_b0 at hx
    split at hx
    · rename_i cc r st
      intro cells slots H locs ad lsc pcb hF h0 hR hS hL hV hA hp
      obtain ⟨j, len, wi, hd, hr⟩ := bc_rw0 hC.2.2.2.2.2.2.2.2 hi hp
      unfold bc_rel at hr
      simp only [Bool.and_eq_true, decide_eq_true_eq] at hr
      obtain ⟨⟨hn, rfl⟩, hm⟩ := hr
      split at hm
      · simp only [Bool.and_eq_true] at hm
        obtain ⟨⟨w1, w2⟩, w3⟩ := hm
        obtain ⟨i, rfl, hi1, hs, hc, -⟩ := bc_arr (g := g) (ad := ad) (h := h) (hV _ List.mem_cons_self) (by show 0 < 7; decide)
        rw [List.map_cons, hc]
        have hle : 1 + bc_cat st ≤ 8 := Nat.le_of_ble_eq_true hcat
        refine W.objInit hC.1 hC.2.1 hC.2.2.2.1 (hC.2.2.2.2.1 _ (bc_wd_in w1)) (hC.2.2.2.2.1 _ (bc_wd_in w2)) (hC.2.2.2.2.1 _ (bc_wd_in w3)) rfl (by rw [hC.2.2.1]; exact hL.1) rfl hd (by omega) ?_ ?_
        · show 2 * 0 + _ + 12 ≤ R.locals
          rw [bc_catsum]
          omega
        · exact hx cells slots H locs ad lsc (pcb + 3) hF h0 hR hS hL (fun v hv => hV v (List.mem_cons_of_mem _ hv)) hA hn
      · cases hm
    · exact False.elim hx
theorem bc_blk_R {ad : Nat → Nat} {H H1 : Heap} {i1 i2 : Nat} {sd dd n : Int} (hR : bc_R g ph ad h np H) (h1 : i1 < np) (h2 : i2 < np) (hk : bc_ck np (bc_sh i2) (bc_blk h i1 sd i2 dd n i2)) (hn : (bc_sh i2).1 ≠ 0)
    (hP : va_P (bc_D g) vwCl ((bc_ws g ad h np).set i2 (ad i2, bc_ce g ad (bc_sh i2) (bc_blk h i1 sd i2 dd n i2))) H1) (hD : va_D (bc_A g) ((bc_ws g ad h np).set i2 (ad i2, bc_ce g ad (bc_sh i2) (bc_blk h i1 sd i2 dd n i2)))) : bc_R g ph ad (bc_blk h i1 sd i2 dd n) np H1 :=
  bc_R_row hR h2 (fun _ ha => bc_blk_ne ha) hk (fun _ c hc => absurd (congrArg Prod.fst hc) hn) hP hD
theorem bc_nn {z : Int} {n : Nat} (h0 : 0 ≤ z) (hz : z ≤ (n : Int)) (hn : n < 100000) : ¬ Int32.ofInt z < 0 ∧ (Int32.ofInt z).toNatClampNeg = z.toNat := by
  have hi : bc_i z := ⟨by omega, by omega⟩
  constructor
  · intro q
    have := (bc_lti hi ⟨by decide, by decide⟩ (b := 0)).mp q
    omega
  · show (Int32.ofInt z).toInt.toNat = _
    rw [bc_ti hi]
theorem bc_o_ret1 (hC : bc_Cx g p s m args meth c k) (hRm : 8 ≤ R.frames ∧ 400 ≤ R.locals) (hi : (bc_code k)[idx]? = some (.ret 1)) (hx : bc_wp (bc_s1 ph (.ret 1) ls st h) (fun ls st h => bc_At g ph p l e R s m args below meth c Z k nq mc ms n0 ad0 (idx + 1) np ls st h)) : bc_At g ph p l e R s m args below meth c Z k nq mc ms n0 ad0 idx np ls st h := by
  simp only [bc_s1] at hx
  cases hcat : Nat.ble (bc_cat st) (bc_lim 1) with
  | false => rw [hcat] at hx; exact False.elim hx
  | true =>
    rw [hcat] at hx
    change bc_wp (bc_b1 ls st h) _ at hx
    unfold bc_b1 at hx
    split at hx
    · rename_i n d n2 r2 sd n1 r1 st
      intro cells slots H locs ad lsc pcb hF h0 hR hS hL hV hA hp
      obtain ⟨j, len, wi, hd, hr⟩ := bc_rw0 hC.2.2.2.2.2.2.2.2 hi hp
      unfold bc_rel at hr
      simp only [Bool.and_eq_true, decide_eq_true_eq] at hr
      obtain ⟨⟨hn, rfl⟩, hm⟩ := hr
      split at hm
      · simp only [Bool.and_eq_true] at hm
        obtain ⟨⟨⟨w1, w2⟩, w3⟩, w4⟩ := hm
        obtain ⟨⟨⟨g1, g2, g3⟩, g4, g5⟩, hx⟩ := hx
        obtain ⟨i2, rfl, hi2, hs2, hc2, hg2⟩ := bc_arr (g := g) (ad := ad) (h := h) (hV _ (List.mem_cons_of_mem _ (List.mem_cons_of_mem _ List.mem_cons_self))) (by show 1 < 7; decide)
        obtain ⟨i1, rfl, hi1, hs1, hc1, hg1⟩ := bc_arr (g := g) (ad := ad) (h := h) (hV _ (List.mem_cons_of_mem _ (List.mem_cons_of_mem _ (List.mem_cons_of_mem _ (List.mem_cons_of_mem _ List.mem_cons_self))))) (by show 1 < 7; decide)
        have z1 := bc_sh_small i1
        have z2 := bc_sh_small i2
        rw [hs1] at z1
        rw [hs2] at z2
        dsimp only at z1 z2
        obtain ⟨a1, a2⟩ := bc_nn g1 (n := n1) (by omega) z1
        obtain ⟨b1, b2⟩ := bc_nn g2 (n := n2) (by omega) z2
        obtain ⟨e1, e2⟩ := bc_nn g3 (n := n1) (by omega) z1
        have k1 := hR.2.2.1 i1 hi1
        have k2 := hR.2.2.1 i2 hi2
        rw [hs1] at k1
        rw [hs2] at k2
        simp only [List.map_cons]
        rw [hc1, hc2]
        refine va_copyi (ty := .int) hC.1 hC.2.1 (by rw [hC.2.2.1]; exact hL.1.symm) hC.2.2.2.1 (hC.2.2.2.2.1 _ (bc_wd_in w1)) (hC.2.2.2.2.1 _ (bc_wd_in w2)) (hC.2.2.2.2.1 _ (bc_wd_in w3)) (hC.2.2.2.2.1 _ (bc_wd_in w4)) hC.2.2.2.2.2.2.1 hR.1 hR.2.1 hS i1 i2 0 0 hg1 hg2 rfl rfl rfl a1 b1 e1 (by rw [a2, e2]; omega) (by rw [b2, e2]; omega) (fun _ _ => rfl) (by omega) ?_ hd (fun H1 locs1 hP hD hS1 => ?_)
        · rw [bc_catsum]
          have hle : 1 + (1 + (1 + (1 + (1 + bc_cat st)))) ≤ 13 := Nat.le_of_ble_eq_true hcat
          have : nativeFrameWords "java/lang/System" "arraycopy" 5 ≤ 300 := by decide +kernel
          omega
        · rw [a2, b2, e2, ← bc_cpy32 h i1 i2 g1 g2 g3] at hP hD
          refine hx cells slots H1 locs1 ad lsc (pcb + 3) hF h0 (bc_blk_R hR hi1 hi2 ?_ (by rw [hs2]; show 1 ≠ 0; decide) (by rw [hs2]; exact hP) (by rw [hs2]; exact hD)) hS1 hL (fun v hv => hV v (by simp [hv])) hA hn
          rw [hs2]
          intro j hj
          rw [bc_blk_at]
          split
          · rename_i q
            have q2 := k1 (sd + ((j : Int) - d)).toNat (by omega)
            rw [show (((sd + ((j : Int) - d)).toNat : Nat) : Int) = sd + ((j : Int) - d) by omega] at q2
            exact q2
          · exact k2 j hj
      · cases hm
    · rename_i n d n2 r2 sd n1 r1 st
      intro cells slots H locs ad lsc pcb hF h0 hR hS hL hV hA hp
      obtain ⟨j, len, wi, hd, hr⟩ := bc_rw0 hC.2.2.2.2.2.2.2.2 hi hp
      unfold bc_rel at hr
      simp only [Bool.and_eq_true, decide_eq_true_eq] at hr
      obtain ⟨⟨hn, rfl⟩, hm⟩ := hr
      split at hm
      · simp only [Bool.and_eq_true] at hm
        obtain ⟨⟨⟨w1, w2⟩, w3⟩, w4⟩ := hm
        obtain ⟨⟨⟨g1, g2, g3⟩, g4, g5⟩, hx⟩ := hx
        obtain ⟨i2, rfl, hi2, hs2, hc2, hg2⟩ := bc_arr (g := g) (ad := ad) (h := h) (hV _ (List.mem_cons_of_mem _ (List.mem_cons_of_mem _ List.mem_cons_self))) (by show 3 < 7; decide)
        obtain ⟨i1, rfl, hi1, hs1, hc1, hg1⟩ := bc_arr (g := g) (ad := ad) (h := h) (hV _ (List.mem_cons_of_mem _ (List.mem_cons_of_mem _ (List.mem_cons_of_mem _ (List.mem_cons_of_mem _ List.mem_cons_self))))) (by show 3 < 7; decide)
        have z1 := bc_sh_small i1
        have z2 := bc_sh_small i2
        rw [hs1] at z1
        rw [hs2] at z2
        dsimp only at z1 z2
        obtain ⟨a1, a2⟩ := bc_nn g1 (n := n1) (by omega) z1
        obtain ⟨b1, b2⟩ := bc_nn g2 (n := n2) (by omega) z2
        obtain ⟨e1, e2⟩ := bc_nn g3 (n := n1) (by omega) z1
        have k1 := hR.2.2.1 i1 hi1
        have k2 := hR.2.2.1 i2 hi2
        rw [hs1] at k1
        rw [hs2] at k2
        simp only [List.map_cons]
        rw [hc1, hc2]
        refine va_copyl (ty := .long) hC.1 hC.2.1 (by rw [hC.2.2.1]; exact hL.1.symm) hC.2.2.2.1 (hC.2.2.2.2.1 _ (bc_wd_in w1)) (hC.2.2.2.2.1 _ (bc_wd_in w2)) (hC.2.2.2.2.1 _ (bc_wd_in w3)) (hC.2.2.2.2.1 _ (bc_wd_in w4)) hC.2.2.2.2.2.2.1 hR.1 hR.2.1 hS i1 i2 2 2 hg1 hg2 rfl rfl rfl a1 b1 e1 (by rw [a2, e2]; omega) (by rw [b2, e2]; omega) (fun _ _ => rfl) (by omega) ?_ hd (fun H1 locs1 hP hD hS1 => ?_)
        · rw [bc_catsum]
          have hle : 1 + (1 + (1 + (1 + (1 + bc_cat st)))) ≤ 13 := Nat.le_of_ble_eq_true hcat
          have : nativeFrameWords "java/lang/System" "arraycopy" 5 ≤ 300 := by decide +kernel
          omega
        · rw [a2, b2, e2, ← bc_cpy64 h i1 i2 g1 g2 g3] at hP hD
          refine hx cells slots H1 locs1 ad lsc (pcb + 3) hF h0 (bc_blk_R hR hi1 hi2 ?_ (by rw [hs2]; show 3 ≠ 0; decide) (by rw [hs2]; exact hP) (by rw [hs2]; exact hD)) hS1 hL (fun v hv => hV v (by simp [hv])) hA hn
          rw [hs2]
          intro j hj
          rw [bc_blk_at]
          split
          · rename_i q
            have q2 := k1 (sd + ((j : Int) - d)).toNat (by omega)
            rw [show (((sd + ((j : Int) - d)).toNat : Nat) : Int) = sd + ((j : Int) - d) by omega] at q2
            exact q2
          · exact k2 j hj
      · cases hm
    · exact False.elim hx
theorem bc_PV {H : Heap} {locs : List Loc} {j : Nat} (hj : j < 2) (hX : bc_X g s s.heap) (hS : va_S (bc_A g) s.heap H locs) (av : List Value) : PreV s H "java/lang/String" (bc_aK g j) (va_Pc (.ref (bc_aK g j) :: av) (fun U => bc_X g U U.heap)) av :=
  ⟨fun a U g2 mk q => ⟨q.1, bc_X_same rfl q.2⟩, vk_recv hX.2.2.2.2.1 hj hS, fun U hU hW => ⟨rfl, by show bc_X g U U.heap; rw [hU]; exact bc_X_warm hW (bc_X_S hX hS)⟩⟩
theorem bc_o_ret2 (hC : bc_Cx g p s m args meth c k) (hRm : 8 ≤ R.frames ∧ 400 ≤ R.locals) (hi : (bc_code k)[idx]? = some (.ret 2)) (hx : bc_wp (bc_s1 ph (.ret 2) ls st h) (fun ls st h => bc_At g ph p l e R s m args below meth c Z k nq mc ms n0 ad0 (idx + 1) np ls st h)) (hcs : mc ≤ R.cells ∧ ms ≤ R.slots) : bc_At g ph p l e R s m args below meth c Z k nq mc ms n0 ad0 idx np ls st h := by
  simp only [bc_s1] at hx
  cases hcat : Nat.ble (bc_cat st) (bc_lim 2) with
  | false => rw [hcat] at hx; exact False.elim hx
  | true =>
    rw [hcat] at hx
    change bc_wp (bc_b2 ls st h) _ at hx
    unfold bc_b2 at hx
    split at hx
    · rename_i j r st
      intro cells slots H locs ad lsc pcb hF h0 hR hS hL hV hA hp
      obtain ⟨_, len, wi, hd, hr⟩ := bc_rw0 hC.2.2.2.2.2.2.2.2 hi hp
      unfold bc_rel at hr
      simp only [Bool.and_eq_true, decide_eq_true_eq] at hr
      obtain ⟨⟨hn, rfl⟩, hm⟩ := hr
      split at hm
      · have hj := bc_s8 (hV _ List.mem_cons_self)
        have hX := hC.2.2.2.2.2.2.2.1
        have hts := hC.2.2.2.2.1
        obtain ⟨s1, s2, s3, s4⟩ := bc_strs j hj
        have hle : 1 + bc_cat st ≤ 8 := Nat.le_of_ble_eq_true hcat
        refine W.callR (r := Int32.ofNat (bc_lenS.getD j 0)) (W.runV (As := []) (rest := st.map (bc_cv g ad)) (own := (bc_mi k).1) (C := "java/lang/String") (n := 0) ⟨hC.1, hC.2.1, hC.2.2.1, hC.2.2.2.1, hts⟩ (bc_jLen l g hj) ⟨callB_of (own := (bc_mi k).1) 0 hts (bc_goodC bc_m59) rfl rfl rfl (hts _ bc_m4) (hts _ (bc_wd_in hm)) (by decide +kernel) ⟨by show 1 + 1 ≤ _; omega, by show 8 + (1 + 11) + 40 ≤ _; omega⟩, hts _ bc_m57, hts _ bc_m58⟩ (bc_PV hj hX hS []) rfl rfl hL.1 rfl (lv_room (by rw [bc_catsum]; omega)) hd ⟨by omega, by omega⟩) ?_
        rw [s2, ← Int32.ofInt_eq_ofNat]
        exact hx cells slots H locs ad lsc (pcb + 3) hF h0 hR hS hL (bc_stcons (v := .inl ((bc_str j).length : Int)) ⟨by omega, by omega⟩ (fun v hv => hV v (List.mem_cons_of_mem _ hv))) hA hn
      · cases hm
    · exact False.elim hx
theorem bc_o_ret3 (hC : bc_Cx g p s m args meth c k) (hRm : 8 ≤ R.frames ∧ 400 ≤ R.locals) (hi : (bc_code k)[idx]? = some (.ret 3)) (hx : bc_wp (bc_s1 ph (.ret 3) ls st h) (fun ls st h => bc_At g ph p l e R s m args below meth c Z k nq mc ms n0 ad0 (idx + 1) np ls st h)) (hcs : mc ≤ R.cells ∧ ms ≤ R.slots) : bc_At g ph p l e R s m args below meth c Z k nq mc ms n0 ad0 idx np ls st h := by
  simp only [bc_s1] at hx
  cases hcat : Nat.ble (bc_cat st) (bc_lim 3) with
  | false => rw [hcat] at hx; exact False.elim hx
  | true =>
    rw [hcat] at hx
    change bc_wp (bc_b3 ls st h) _ at hx
    unfold bc_b3 at hx
    split at hx
    · rename_i i j r st
      intro cells slots H locs ad lsc pcb hF h0 hR hS hL hV hA hp
      obtain ⟨_, len, wi, hd, hr⟩ := bc_rw0 hC.2.2.2.2.2.2.2.2 hi hp
      unfold bc_rel at hr
      simp only [Bool.and_eq_true, decide_eq_true_eq] at hr
      obtain ⟨⟨hn, rfl⟩, hm⟩ := hr
      split at hm
      · have hj := bc_s8 (hV _ (List.mem_cons_of_mem _ List.mem_cons_self))
        have hX := hC.2.2.2.2.2.2.2.1
        have hts := hC.2.2.2.2.1
        obtain ⟨s1, s2, s3, s4⟩ := bc_strs j hj
        have hle : 1 + (1 + bc_cat st) ≤ 8 := Nat.le_of_ble_eq_true hcat
        obtain ⟨⟨i0, i1⟩, hx⟩ := hx
        have hiN : i.toNat < bc_lenS.getD j 0 := by rw [s2]; omega
        have hii : Int32.ofInt i = nI i.toNat := by
          unfold nI
          rw [← Int32.ofInt_eq_ofNat]
          congr 1
          omega
        have kk := hx cells slots H locs ad lsc (pcb + 3) hF h0 hR hS hL (bc_stcons (v := .inl ((bc_str j).getD i.toNat 0)) (bc_chI hj _) (fun v hv => hV v (List.mem_cons_of_mem _ (List.mem_cons_of_mem _ hv)))) hA hn
        have he : List.map (bc_cv g ad) (.inl i :: .inr (.inr ((8, j), r)) :: st) = .int (nI i.toNat) :: .ref (bc_aK g j) :: st.map (bc_cv g ad) := by
          show Value.int (Int32.ofInt i) :: _ = _
          rw [hii]
          rfl
        rw [he]
        refine W.callR (r := (bc_bytS.getD j []).getD i.toNat 0) (W.runV (As := [.int (nI i.toNat)]) (rest := st.map (bc_cv g ad)) (own := (bc_mi k).1) (C := "java/lang/String") (n := 1) ⟨hC.1, hC.2.1, hC.2.2.1, hC.2.2.2.1, hts⟩ (bc_jChar l g hj hiN) ⟨callB_of (own := (bc_mi k).1) 1 hts (bc_goodC bc_m69) rfl rfl rfl (hts _ bc_m4) (hts _ (bc_wd_in hm)) (by decide +kernel) ⟨by show 3 + 1 ≤ _; omega, by show 8 + (2 + 11) + 120 ≤ _; omega⟩, hts _ bc_m67, hts _ bc_m68⟩ (bc_PV hj hX hS [.int (nI i.toNat)]) rfl rfl hL.1 rfl (lv_room (by rw [bc_catsum]; omega)) hd ⟨by omega, by omega⟩) ?_
        rw [s1, bc_getDm]
        exact kk
      · cases hm
    · exact False.elim hx
theorem bc_o_ret5 (hC : bc_Cx g p s m args meth c k) (hRm : 8 ≤ R.frames ∧ 400 ≤ R.locals) (hi : (bc_code k)[idx]? = some (.ret 5)) (hx : bc_wp (bc_s1 ph (.ret 5) ls st h) (fun ls st h => bc_At g ph p l e R s m args below meth c Z k nq mc ms n0 ad0 (idx + 1) np ls st h)) (hcs : mc ≤ R.cells ∧ ms ≤ R.slots) : bc_At g ph p l e R s m args below meth c Z k nq mc ms n0 ad0 idx np ls st h := by
  simp only [bc_s1] at hx
  cases hcat : Nat.ble (bc_cat st) (bc_lim 5) with
  | false => rw [hcat] at hx; exact False.elim hx
  | true =>
    rw [hcat] at hx
    change bc_wp (bc_b5 ls st h) _ at hx
    unfold bc_b5 at hx
    split at hx
    · rename_i b a st
      intro cells slots H locs ad lsc pcb hF h0 hR hS hL hV hA hp
      obtain ⟨j, len, wi, hd, hr⟩ := bc_rw0 hC.2.2.2.2.2.2.2.2 hi hp
      unfold bc_rel at hr
      simp only [Bool.and_eq_true, decide_eq_true_eq] at hr
      obtain ⟨⟨hn, rfl⟩, hm⟩ := hr
      split at hm
      · simp only [Bool.and_eq_true] at hm
        obtain ⟨⟨⟨w1, w2⟩, w3⟩, w4⟩ := hm
        have vb : bc_i b := hV (.inl b) List.mem_cons_self
        have va : bc_i a := hV (.inl a) (List.mem_cons_of_mem _ List.mem_cons_self)
        have q : Int32.ofInt (if a < b then b else a) = if Int32.ofInt a < Int32.ofInt b then Int32.ofInt b else Int32.ofInt a := by
          by_cases e : a < b
          · rw [if_pos e, if_pos ((bc_lti va vb).mpr e)]
          · rw [if_neg e, if_neg (fun z => e ((bc_lti va vb).mp z))]
        have kk : W p l e R s m args below meth c H locs cells slots Z (F0 m (pcb + 3) lsc (.int (Int32.ofInt (if a < b then b else a)) :: st.map (bc_cv g ad))) := hx cells slots H locs ad lsc (pcb + 3) hF h0 hR hS hL (bc_stcons (v := .inl (if a < b then b else a)) (by show bc_i _; split <;> assumption) (fun v hv => hV v (List.mem_cons_of_mem _ (List.mem_cons_of_mem _ hv)))) hA hn
        rw [q] at kk
        have hle : 1 + (1 + bc_cat st) ≤ 10 := Nat.le_of_ble_eq_true hcat
        exact va_mmax hC.1 hC.2.1 (by rw [hC.2.2.1]; exact hL.1.symm) hC.2.2.2.1 (hC.2.2.2.2.1 _ (bc_wd_in w1)) (hC.2.2.2.2.1 _ (bc_wd_in w2)) (hC.2.2.2.2.1 _ (bc_wd_in w3)) (hC.2.2.2.2.1 _ (bc_wd_in w4)) (by omega) (by rw [bc_catsum]; omega) (by omega) (by omega) hd kk
      · cases hm
    · exact False.elim hx
theorem bc_o_ret6 (hC : bc_Cx g p s m args meth c k) (hRm : 8 ≤ R.frames ∧ 400 ≤ R.locals) (hi : (bc_code k)[idx]? = some (.ret 6)) (hx : bc_wp (bc_s1 ph (.ret 6) ls st h) (fun ls st h => bc_At g ph p l e R s m args below meth c Z k nq mc ms n0 ad0 (idx + 1) np ls st h)) (hcs : mc ≤ R.cells ∧ ms ≤ R.slots) : bc_At g ph p l e R s m args below meth c Z k nq mc ms n0 ad0 idx np ls st h := by
  simp only [bc_s1] at hx
  cases hcat : Nat.ble (bc_cat st) (bc_lim 6) with
  | false => rw [hcat] at hx; exact False.elim hx
  | true =>
    rw [hcat] at hx
    change bc_wp (bc_b6 ls st h) _ at hx
    unfold bc_b6 at hx
    split at hx
    · rename_i b a st
      intro cells slots H locs ad lsc pcb hF h0 hR hS hL hV hA hp
      obtain ⟨j, len, wi, hd, hr⟩ := bc_rw0 hC.2.2.2.2.2.2.2.2 hi hp
      unfold bc_rel at hr
      simp only [Bool.and_eq_true, decide_eq_true_eq] at hr
      obtain ⟨⟨hn, rfl⟩, hm⟩ := hr
      split at hm
      · simp only [Bool.and_eq_true] at hm
        obtain ⟨⟨⟨w1, w2⟩, w3⟩, w4⟩ := hm
        have vb : bc_i b := hV (.inl b) List.mem_cons_self
        have va : bc_i a := hV (.inl a) (List.mem_cons_of_mem _ List.mem_cons_self)
        have q : Int32.ofInt (if b < a then b else a) = if Int32.ofInt b < Int32.ofInt a then Int32.ofInt b else Int32.ofInt a := by
          by_cases e : b < a
          · rw [if_pos e, if_pos ((bc_lti vb va).mpr e)]
          · rw [if_neg e, if_neg (fun z => e ((bc_lti vb va).mp z))]
        have kk : W p l e R s m args below meth c H locs cells slots Z (F0 m (pcb + 3) lsc (.int (Int32.ofInt (if b < a then b else a)) :: st.map (bc_cv g ad))) := hx cells slots H locs ad lsc (pcb + 3) hF h0 hR hS hL (bc_stcons (v := .inl (if b < a then b else a)) (by show bc_i _; split <;> assumption) (fun v hv => hV v (List.mem_cons_of_mem _ (List.mem_cons_of_mem _ hv)))) hA hn
        rw [q] at kk
        have hle : 1 + (1 + bc_cat st) ≤ 10 := Nat.le_of_ble_eq_true hcat
        exact va_mmin hC.1 hC.2.1 (by rw [hC.2.2.1]; exact hL.1.symm) hC.2.2.2.1 (hC.2.2.2.2.1 _ (bc_wd_in w1)) (hC.2.2.2.2.1 _ (bc_wd_in w2)) (hC.2.2.2.2.1 _ (bc_wd_in w3)) (hC.2.2.2.2.1 _ (bc_wd_in w4)) (by omega) (by rw [bc_catsum]; omega) (by omega) (by omega) hd kk
      · cases hm
    · exact False.elim hx
theorem bc_o_ret4 (hC : bc_Cx g p s m args meth c k) (hRm : 8 ≤ R.frames ∧ 400 ≤ R.locals) (hi : (bc_code k)[idx]? = some (.ret 4)) (hx : bc_wp (bc_s1 ph (.ret 4) ls st h) (fun ls st h => bc_At g ph p l e R s m args below meth c Z k nq mc ms n0 ad0 (idx + 1) np ls st h)) (hcs : mc ≤ R.cells ∧ ms ≤ R.slots) : bc_At g ph p l e R s m args below meth c Z k nq mc ms n0 ad0 idx np ls st h := by
  simp only [bc_s1] at hx
  cases hcat : Nat.ble (bc_cat st) (bc_lim 4) with
  | false => rw [hcat] at hx; exact False.elim hx
  | true =>
    rw [hcat] at hx
    change bc_wp (bc_b4 ls st h) _ at hx
    unfold bc_b4 at hx
    split at hx
    · rename_i a st
      intro cells slots H locs ad lsc pcb hF h0 hR hS hL hV hA hp
      obtain ⟨j, len, wi, hd, hr⟩ := bc_rw0 hC.2.2.2.2.2.2.2.2 hi hp
      unfold bc_rel at hr
      simp only [Bool.and_eq_true, decide_eq_true_eq] at hr
      obtain ⟨⟨hn, rfl⟩, hm⟩ := hr
      split at hm
      · simp only [Bool.and_eq_true] at hm
        obtain ⟨⟨⟨w1, w2⟩, w3⟩, w4⟩ := hm
        have va : bc_i a := hV (.inl a) List.mem_cons_self
        have v0 : bc_i 0 := ⟨by decide, by decide⟩
        have q : Int32.ofInt (if 0 ≤ a then a else bc_w32 (0 - a)) = if 0 ≤ Int32.ofInt a then Int32.ofInt a else 0 - Int32.ofInt a := by
          by_cases e : 0 ≤ a
          · have e2 : (0 : Int32) ≤ Int32.ofInt a := (bc_lei v0 va).mpr e
            rw [if_pos e, if_pos e2]
          · have e2 : ¬ (0 : Int32) ≤ Int32.ofInt a := fun z => e ((bc_lei v0 va).mp z)
            rw [if_neg e, if_neg e2, bc_o32, Int32.ofInt_sub]
            rfl
        have kk : W p l e R s m args below meth c H locs cells slots Z (F0 m (pcb + 3) lsc (.int (Int32.ofInt (if 0 ≤ a then a else bc_w32 (0 - a))) :: st.map (bc_cv g ad))) := hx cells slots H locs ad lsc (pcb + 3) hF h0 hR hS hL (bc_stcons (v := .inl (if 0 ≤ a then a else bc_w32 (0 - a))) (by show bc_i _; split; assumption; exact bc_w32_i _) (fun v hv => hV v (List.mem_cons_of_mem _ hv))) hA hn
        rw [q] at kk
        have hle : 1 + bc_cat st ≤ 10 := Nat.le_of_ble_eq_true hcat
        exact va_mabs hC.1 hC.2.1 (by rw [hC.2.2.1]; exact hL.1.symm) hC.2.2.2.1 (hC.2.2.2.2.1 _ (bc_wd_in w1)) (hC.2.2.2.2.1 _ (bc_wd_in w2)) (hC.2.2.2.2.1 _ (bc_wd_in w3)) (hC.2.2.2.2.1 _ (bc_wd_in w4)) (by omega) (by rw [bc_catsum]; omega) (by omega) (by omega) hd kk
      · cases hm
    · exact False.elim hx
end BCB
end
section
/-! calls -/
theorem bc_take_spec : ∀ (n : Nat) (st acc as rest : bc_St), bc_take n st acc = some (as, rest) → ∃ pre : bc_St, as = pre ++ acc ∧ pre.length = n ∧ st = pre.reverse ++ rest
  | 0, st, acc, as, rest, h => by
    simp only [bc_take, Option.some.injEq, Prod.mk.injEq] at h
    exact ⟨[], by rw [← h.1]; rfl, rfl, by rw [← h.2]; rfl⟩
  | n + 1, [], acc, as, rest, h => by simp [bc_take] at h
  | n + 1, v :: st, acc, as, rest, h => by
    simp only [bc_take] at h
    obtain ⟨pre, h1, h2, h3⟩ := bc_take_spec n st (v :: acc) as rest h
    exact ⟨pre ++ [v], by rw [h1]; simp, by simp [h2], by rw [h3]; simp⟩
theorem bc_lget_pad : ∀ (l : bc_L) (n i : Nat), bc_lget (bc_pad l n) i = bc_lget l i
  | l, 0, i => by cases l <;> rfl
  | [], n + 1, 0 => rfl
  | [], n + 1, i + 1 => by show bc_lget (bc_pad [] n) i = none; rw [bc_lget_pad [] n i]; rfl
  | a :: l, n + 1, 0 => rfl
  | a :: l, n + 1, i + 1 => by show bc_lget (bc_pad l n) i = bc_lget l i; exact bc_lget_pad l n i
theorem bc_ent_mem {g : bc_GG} {ad : Nat → Nat} : ∀ (as : bc_St) (o i : Nat) (v : bc_V), bc_lget (bc_ent as) i = some v → v ∈ as ∧ (o + i, bc_cv g ad v) ∈ lv_args o (as.map (bc_cv g ad))
  | [], o, i, v, h => by cases i <;> cases h
  | .inl x :: as, o, i, v, h => by
    cases i with
    | zero => cases h; exact ⟨List.mem_cons_self, List.mem_cons_self⟩
    | succ i =>
      obtain ⟨h1, h2⟩ := bc_ent_mem (g := g) (ad := ad) as (o + 1) i v h
      refine ⟨List.mem_cons_of_mem _ h1, List.mem_cons_of_mem _ ?_⟩
      rw [show o + (i + 1) = o + 1 + i by omega]
      exact h2
  | .inr (.inr x) :: as, o, i, v, h => by
    cases i with
    | zero => cases h; exact ⟨List.mem_cons_self, List.mem_cons_self⟩
    | succ i =>
      obtain ⟨h1, h2⟩ := bc_ent_mem (g := g) (ad := ad) as (o + 1) i v h
      refine ⟨List.mem_cons_of_mem _ h1, ?_⟩
      rw [List.map_cons, lv_args, bc_catr, if_neg (by decide), show o + (i + 1) = o + 1 + i by omega]
      exact List.mem_cons_of_mem _ h2
  | .inr (.inl x) :: as, o, i, v, h => by
    cases i with
    | zero => cases h; exact ⟨List.mem_cons_self, List.mem_cons_self⟩
    | succ i =>
      cases i with
      | zero => cases h
      | succ i =>
        obtain ⟨h1, h2⟩ := bc_ent_mem (g := g) (ad := ad) as (o + 2) i v h
        refine ⟨List.mem_cons_of_mem _ h1, List.mem_cons_of_mem _ ?_⟩
        rw [show o + (i + 1 + 1) = o + 2 + i by omega]
        exact h2
theorem bc_sl_len {g : bc_GG} {ad : Nat → Nat} : ∀ as : bc_St, (lg_sl (as.map (bc_cv g ad))).length = bc_cat as
  | [] => rfl
  | .inl x :: as => by
    have ih := bc_sl_len (g := g) (ad := ad) as
    unfold lg_sl at ih ⊢
    rw [List.map_cons, List.flatMap_cons, List.length_append, ih]
    rfl
  | .inr (.inl x) :: as => by
    have ih := bc_sl_len (g := g) (ad := ad) as
    unfold lg_sl at ih ⊢
    rw [List.map_cons, List.flatMap_cons, List.length_append, ih]
    rfl
  | .inr (.inr x) :: as => by
    have ih := bc_sl_len (g := g) (ad := ad) as
    unfold lg_sl at ih ⊢
    rw [List.map_cons, List.flatMap_cons, List.length_append, ih, bc_catr]
    rfl
theorem bc_SZ_mono {a b : Nat} (h : a ≤ b) : bc_SZ a ≤ bc_SZ b := by
  unfold bc_SZ
  obtain ⟨c, rfl⟩ := Nat.exists_eq_add_of_le h
  rw [List.take_add, List.map_append, List.sum_append]
  omega
theorem bc_cv_eq {g : bc_GG} {ad ad' : Nat → Nat} {np : Nat} {v : bc_V} (hv : bc_vo np v) (ha : ∀ i, i < np → ad' i = ad i) : bc_cv g ad' v = bc_cv g ad v := by
  rcases v with x | x | ⟨sh, r⟩
  · rfl
  · rfl
  · unfold bc_cv
    dsimp only
    by_cases e7 : sh.1 = 7
    · rw [if_pos e7, if_pos e7]
    · rw [if_neg e7, if_neg e7]
      by_cases e8 : sh.1 = 8
      · rw [if_pos e8, if_pos e8]
      · rw [if_neg e8, if_neg e8]
        rcases hv with h | h | h
        · exact absurd h e7
        · exact absurd h.1 e8
        · rw [ha _ h.2.2.1]
theorem bc_lh_up {g : bc_GG} {ad ad' : Nat → Nat} {np nr nL : Nat} {lsc : Array Slot} {ls : bc_L} (h : bc_lh g ad np nL lsc ls) (hn : np ≤ nr) (ha : ∀ i, i < np → ad' i = ad i) : bc_lh g ad' nr nL lsc ls :=
  ⟨h.1, h.2.1, fun i v q => ⟨bc_vo_mono hn (h.2.2 i v q).1, by rw [bc_cv_eq (h.2.2 i v q).1 ha]; exact (h.2.2 i v q).2⟩⟩
theorem bc_map_up {g : bc_GG} {ad ad' : Nat → Nat} {np : Nat} {st : bc_St} (hv : ∀ v ∈ st, bc_vo np v) (ha : ∀ i, i < np → ad' i = ad i) : st.map (bc_cv g ad') = st.map (bc_cv g ad) := List.map_congr_left (fun v q => bc_cv_eq (hv v q) ha)
/-- what a method gives, by its kind -/
def bc_rv (k : Nat) (v : Option bc_V) : Prop := match (bc_mt k).2.1, v with
  | 0, none => True
  | 1, some (.inl _) => True
  | 2, some (.inr (.inl _)) => True
  | 3, some (.inl x) => x = 0 ∨ x = 1
  | _, _ => False
def bc_rd (v : Option bc_V) : Instr := match v with
  | none => .return_
  | some (.inl _) => .ireturn
  | some (.inr (.inl _)) => .lreturn
  | some (.inr (.inr _)) => .areturn
/-- what is known where the frame ends -/
def bc_Hr (g : bc_GG) (ph : Bool) (p : Program) (l : Launch) (e : Env) (R : Room) (s : State) (m : MethodId) (args : Array Value) (below : List Frame) (meth : Method) (c : Code) (Z : State → Prop) (k nq mc ms n0 : Nat) (ad0 : Nat → Nat) (Q : bc_Q) : Prop :=
  ∀ (v : Option bc_V) (h' : bc_H) (H : Heap) (locs : List Loc) (ad : Nat → Nat) (lsc : Array Slot) (pcb : Nat), Q v h' → (∀ x, v = some x → bc_vo nq x) → bc_rv k v → bc_R g ph ad h' nq H → va_S (bc_A g) s.heap H locs → (∀ i, i < n0 → ad i = ad0 i) → decode (bc_mi k).2.2.1 pcb = .ok (bc_rd v, 1) → W p l e R s m args below meth c H locs mc ms Z (F0 m pcb lsc ((v.map (bc_cv g ad)).toList))
/-- sound from a point on -/
def bc_Snd (g : bc_GG) (ph : Bool) : bc_P := fun d k pc np ls st h nq Q => ∀ (p : Program) (l : Launch) (e : Env) (R : Room) (s : State) (m : MethodId) (args : Array Value) (below : List Frame) (meth : Method) (c : Code) (Z : State → Prop) (mc ms n0 : Nat) (ad0 : Nat → Nat),
  bc_Cx g p s m args meth c k → (d + 8 ≤ R.frames ∧ 50 * d + 400 ≤ R.locals) → (mc ≤ R.cells ∧ ms ≤ R.slots) → bc_Hr g ph p l e R s m args below meth c Z k nq mc ms n0 ad0 Q → bc_At g ph p l e R s m args below meth c Z k nq mc ms n0 ad0 pc np ls st h
def bc_Qc (g : bc_GG) (ph : Bool) (ad : Nat → Nat) (n np nr : Nat) (M : bc_Q) : Array Value → State → Outcome → State → Prop := fun _ st o t => (∃ (v : Option bc_V) (h' : bc_H) (ad' : Nat → Nat), o = .returned (v.map (bc_cv g ad')) ∧ M v h' ∧ (∀ x, v = some x → bc_vo nr x) ∧ bc_rv n v ∧ bc_R g ph ad' h' nr t.heap ∧ ∀ i, i < np → ad' i = ad i) ∧ va_F (bc_A g) st t
theorem bc_rcd_inv (r : Option FieldType) : (bc_rcd r = 0 → r = none) ∧ (bc_rcd r = 1 → r = some .int) ∧ (bc_rcd r = 2 → r = some .long) ∧ (bc_rcd r = 3 → r = some .boolean) := by
  rcases r with _ | t
  · exact ⟨fun _ => rfl, fun h => (by cases h), fun h => (by cases h), fun h => (by cases h)⟩
  · cases t <;> exact ⟨fun h => (by cases h), fun h => (by first | rfl | cases h), fun h => (by first | rfl | cases h), fun h => (by first | rfl | cases h)⟩
theorem bc_ck_all {n : Nat} (h : bc_ckM n = true) : bc_pc n 0 = some 0 ∧ (bc_mt n).2.1 = bc_rcd (bc_mi n).2.2.2.2 ∧ (bc_mt n).2.2.1 = (bc_mi n).2.2.2.1 ∧ (bc_mi n).2.1.cls = (bc_mi n).1 ∧ plainName (bc_mi n).2.1.cls = true ∧ (bc_mi n).2.1.cls ≠ "java/lang/invoke/MethodHandle" ∧ (bc_mi n).2.1.cls ≠ "java/lang/invoke/VarHandle" ∧ (bc_mi n).2.2.2.1 ≤ 31 ∧ (parseMethodDescriptor (bc_mi n).2.1.desc).map (fun d => d.parameters.length) = some (bc_mt n).2.2.2.1 := by
  unfold bc_ckM at h
  simp only [Bool.and_eq_true, decide_eq_true_eq] at h
  obtain ⟨⟨⟨⟨⟨⟨⟨⟨⟨-, h1⟩, h2⟩, h3⟩, h4⟩, h5⟩, h6⟩, h7⟩, h8⟩, h9⟩ := h
  exact ⟨h1, h2, h3, h4, h5, h6, h7, h8, h9⟩
def bc_cc (n : Nat) : Cond := .code (bc_mi n).2.1 (bc_mi n).2.2.1 (bc_mi n).2.2.2.1 (bc_mi n).2.2.2.2
/-- a method that is sound, called -/
theorem bc_met {g : bc_GG} {ph : Bool} {d n np nr : Nat} {as : bc_St} {h : bc_H} {M : bc_Q} (l : Launch) (ad : Nat → Nat) (hS : bc_Snd g ph d n 0 np (bc_pad (bc_ent as) (bc_mt n).2.2.1) [] h nr M) (hck : bc_ckM n = true) (hnp : np ≤ nr) (hcat : bc_cat as ≤ (bc_mt n).2.2.1) (hv : ∀ v ∈ as, bc_vo np v) :
    Met l (bc_mi n).2.1 (bc_cc n :: bc_T) ({ frames := d + 8, cells := nr - np, slots := bc_SZ nr - bc_SZ np, locals := 50 * d + 400 }) (va_Pc (as.map (bc_cv g ad)) (fun U => bc_R g ph ad h np U.heap ∧ va_K (bc_D g) vwCl (bc_ty g) U ∧ bc_X g U U.heap)) (bc_Qc g ph ad n np nr M) (nr - np) (bc_SZ nr - bc_SZ np) (bc_A g) := by
  obtain ⟨k1, k2, k3, k4, k5, k6, k7, k8, k9⟩ := bc_ck_all hck
  refine Met.ofW (cc := (bc_mi n).2.2.1) (maxL := (bc_mi n).2.2.2.1) (ret := (bc_mi n).2.2.2.2) k5 rfl ?_
  intro p e s m args below meth c s₁ B hml hv0
  obtain ⟨rfl, hR, hK, hX⟩ := hv0
  have hts0 := atoms_spec (ws := bc_cc n :: bc_T) B.pre
  have hown : s.vm.findClass (bc_mi n).2.1.cls = some m.cls := findClass_of_methodNamed B.named
  have hlocks := B.notSynchronized
  have hr := B.returns
  have hC : bc_Cx g p s m (as.map (bc_cv g ad)).toArray meth c n := ⟨B.exec, B.bytes, hml, k4 ▸ hown, fun w h => hts0 w (List.mem_cons_of_mem _ h), fun q => (name_of_methodNamed B.named B.method).1.trans q, hK, hX, hck⟩
  have hcat' : (lg_sl (as.map (bc_cv g ad))).length ≤ (bc_mi n).2.2.2.1 := by rw [bc_sl_len, ← k3]; exact hcat
  obtain ⟨l1, l2, l3⟩ := lv_entry (as.map (bc_cv g ad)) hcat'
  rw [lg_entry_eq]
  refine hS p l e _ s m _ below meth c _ (nr - np) (bc_SZ nr - bc_SZ np) np ad hC ⟨Nat.le_refl _, Nat.le_refl _⟩ ⟨Nat.le_refl _, Nat.le_refl _⟩ ?_ 0 0 s.heap [] ad _ 0 ⟨hnp, Nat.zero_add _, Nat.zero_add _⟩ (Nat.le_refl _) hR va_S.rf ⟨l1, l2, fun i v q => ?_⟩ (fun v q => by cases q) (fun _ _ => rfl) k1
  · intro v h' H locs ad' lsc pcb hM ht hrv hR' hS' hA hd
    have hQ : ∀ t : State, t.heap = H → bc_Qc g ph ad n np nr M (as.map (bc_cv g ad)).toArray s (.returned (v.map (bc_cv g ad'))) t := fun t hT => ⟨⟨v, h', ad', rfl, hM, ht, hrv, hT ▸ hR', hA⟩, hS'.F hT⟩
    have hi := bc_rcd_inv (bc_mi n).2.2.2.2
    rw [← k2] at hi
    unfold bc_rv at hrv
    split at hrv
    · rename_i q
      exact W.vret B.exec B.bytes (hr.trans (hi.1 q)) (fun t hT _ => hQ t hT) hS'.2.2 hd
    · rename_i x q
      exact W.iret B.exec B.bytes (hr.trans (hi.2.1 q)) (fun t hT _ => hQ t hT) hS'.2.2 hd
    · rename_i x q
      exact W.lret B.exec B.bytes (hr.trans (hi.2.2.1 q)) (fun t hT _ => hQ t hT) hS'.2.2 hd
    · rename_i x q
      refine W.zret B.exec B.bytes (hr.trans (hi.2.2.2 q)) ?_ (fun t hT _ => hQ t hT) hS'.2.2 hd
      rcases hrv with rfl | rfl <;> decide
    · exact hrv.elim
  · rw [bc_lget_pad] at q
    obtain ⟨h1, h2⟩ := bc_ent_mem (g := g) (ad := ad) as 0 i v q
    exact ⟨hv v h1, by have := l3 _ h2; rwa [Nat.zero_add] at this⟩
end
section
/-! the three kinds of calls -/
section BCI
variable {g : bc_GG} {ph : Bool} {p : Program} {l : Launch} {e : Env} {R : Room} {s : State} {m : MethodId} {args : Array Value} {below : List Frame} {meth : Method} {c : Code} {Z : State → Prop} {d k nq mc ms n0 : Nat} {ad0 : Nat → Nat} {idx np : Nat} {ls : bc_L} {st : bc_St} {h : bc_H}
/-- behind a call -/
theorem bc_call {H : Heap} {locs : List Loc} {cells slots mc1 ms1 n nr pcb : Nat} {ad : Nat → Nat} {lsc : Array Slot} {st0 rest : List Value} {a : Array Value} {M : bc_Q} (hr : va_Run p l e R s m args below meth c H locs cells slots mc1 ms1 (F0 m pcb lsc st0) rest (bc_Qc g ph ad n np nr M a) (bc_A g)) (hS : va_S (bc_A g) s.heap H locs)
    (kk : ∀ (v : Option bc_V) (h' : bc_H) (ad' : Nat → Nat) (H1 : Heap) (locs1 : List Loc), M v h' → (∀ x, v = some x → bc_vo nr x) → bc_R g ph ad' h' nr H1 → (∀ i, i < np → ad' i = ad i) → va_S (bc_A g) s.heap H1 locs1 → W p l e R s m args below meth c H1 locs1 (cells + mc1) (slots + ms1) Z (F0 m (pcb + 3) lsc ((v.map (bc_cv g ad')).toList ++ rest))) : W p l e R s m args below meth c H locs cells slots Z (F0 m pcb lsc st0) := by
  intro T hT X
  obtain ⟨v, st₀, t, T', L, h0, X', hL, e1, e2, ⟨⟨v', h', ad', hv, hM, ht, -, hR, hA⟩, hz, hk⟩, st⟩ := hr T hT X
  cases hv
  rw [h0] at hz hk
  obtain ⟨t2, a1, b1⟩ := kk v' h' ad' T'.heap (locs ++ L) hM ht (by rw [e1]; exact hR) hA
    ⟨Nat.le_trans hS.1 (by rw [e1]; exact hz), fun q h1 h2 => by rw [e1, hk q (Nat.lt_of_lt_of_le h1 hS.1) h2]; exact hS.2.1 q h1 h2, fun q hq => by
      rcases List.mem_append.mp hq with h | h
      · exact hS.2.2 q h
      · exact hL q h⟩ T' rfl X'
  exact ⟨t2, st t2 a1, b1⟩
theorem bc_blind {g : bc_GG} {ph : Bool} {ad : Nat → Nat} {h : bc_H} {np : Nat} {as : List Value} : FrameBlind (va_Pc as (fun U => bc_R g ph ad h np U.heap ∧ va_K (bc_D g) vwCl (bc_ty g) U ∧ bc_X g U U.heap)) := fun _ U _ _ q => ⟨q.1, q.2.1, va_K.moved (Vm.Alike.refl U.vm) q.2.2.1, bc_X_same rfl q.2.2.2⟩
theorem bc_pre {H : Heap} {locs : List Loc} {ad : Nat → Nat} {as : List Value} (hC : bc_Cx g p s m args meth c k) (hR : bc_R g ph ad h np H) (hS : va_S (bc_A g) s.heap H locs) : ∀ U : State, U.heap = H → s.WarmedH U.vm → va_Pc as (fun U => bc_R g ph ad h np U.heap ∧ va_K (bc_D g) vwCl (bc_ty g) U ∧ bc_X g U U.heap) as.toArray U := by
  intro U hU hW
  refine ⟨rfl, ?_, va_K.moved hW.alike hC.2.2.2.2.2.2.1, ?_⟩
  · rw [hU]; exact hR
  · rw [hU]; exact bc_X_warm hW (bc_X_S hC.2.2.2.2.2.2.2.1 hS)
theorem bc_cg_in {vt : Bool} {k : Nat} {as st : bc_St} (h : bc_cg vt k as st = true) : Nat.ble (bc_cat st) 8 = true ∧ Nat.ble (bc_cat as) (bc_mt k).2.2.1 = true ∧ (vt = true → bc_hd k as = true) := by
  unfold bc_cg at h
  cases h1 : Nat.ble (bc_cat st) 8 with
  | false => rw [h1] at h; cases h
  | true =>
    cases h2 : Nat.ble (bc_cat as) (bc_mt k).2.2.1 with
    | false => rw [h1, h2] at h; cases h
    | true =>
      rw [h1, h2] at h
      cases vt with
      | false => exact ⟨rfl, rfl, fun q => by cases q⟩
      | true => exact ⟨rfl, rfl, fun _ => h⟩
/-- what a call of the small machine says -/
theorem bc_cal_in {P : bc_P} {vt : Bool} {n : Nat} {K : Nat → bc_St → bc_H → Prop} (hx : bc_cal P vt d n nq np st h K) : ∃ (d' nr : Nat) (M : bc_Q) (as rest : bc_St), d = d' + 1 ∧ st = as.reverse ++ rest ∧ as.length = (bc_mt n).1 ∧ (np ≤ nr ∧ nr ≤ nq) ∧ bc_cat rest ≤ 8 ∧ bc_cat as ≤ (bc_mt n).2.2.1 ∧ (vt = true → bc_hd n as = true) ∧ P d' n 0 np (bc_pad (bc_ent as) (bc_mt n).2.2.1) [] h nr M ∧ ∀ r h', M r h' → K nr (bc_psh r rest) h' := by
  unfold bc_cal at hx
  split at hx
  · rename_i d' as rest htk
    split at hx
    · rename_i hcg
      obtain ⟨nr, M, h1, h2, h3⟩ := hx
      obtain ⟨pre, e1, e2, e3⟩ := bc_take_spec _ _ _ _ _ htk
      rw [List.append_nil] at e1
      subst e1
      refine ⟨d', nr, M, as, rest, rfl, e3, e2, h1, ?_, ?_, ?_, h2, h3⟩
      · exact Nat.le_of_ble_eq_true (bc_cg_in hcg).1
      · exact Nat.le_of_ble_eq_true (bc_cg_in hcg).2.1
      · exact (bc_cg_in hcg).2.2
    · exact hx.elim
  · exact hx.elim
theorem bc_room8 {g : bc_GG} {m : MethodId} {ad : Nat → Nat} {rest : bc_St} (h8 : bc_cat rest ≤ 8) {pcb : Nat} {lsc : Array Slot} {st0 : List Value} : 2 * (F0 m pcb lsc st0).monitorRoom + ((rest.map (bc_cv g ad)).map (fun v => v.category)).sum ≤ 8 := by
  rw [bc_catsum]
  show 2 * 0 + _ ≤ 8
  omega
/-- after the run: on -/
theorem bc_after {H : Heap} {locs : List Loc} {cells slots n nr pcb : Nat} {ad : Nat → Nat} {lsc : Array Slot} {st0 : List Value} {rest : bc_St} {a : Array Value} {M : bc_Q} (hr : va_Run p l e R s m args below meth c H locs cells slots (nr - np) (bc_SZ nr - bc_SZ np) (F0 m pcb lsc st0) (rest.map (bc_cv g ad)) (bc_Qc g ph ad n np nr M a) (bc_A g))
    (hn : np ≤ nr ∧ nr ≤ nq) (hF : np ≤ nq ∧ cells + (nq - np) = mc ∧ slots + (bc_SZ nq - bc_SZ np) = ms) (h0 : n0 ≤ np) (hS : va_S (bc_A g) s.heap H locs) (hL : bc_lh g ad np (bc_mi k).2.2.2.1 lsc ls) (hV : ∀ v ∈ rest, bc_vo np v) (hA : ∀ i, i < n0 → ad i = ad0 i) (hp : bc_pc k (idx + 1) = some (pcb + 3))
    (kk : ∀ r h', M r h' → bc_At g ph p l e R s m args below meth c Z k nq mc ms n0 ad0 (idx + 1) nr ls (bc_psh r rest) h') : W p l e R s m args below meth c H locs cells slots Z (F0 m pcb lsc st0) := by
  refine bc_call hr hS fun v h' ad' H1 locs1 hM ht hR' hag hS1 => ?_
  have e1 : (v.map (bc_cv g ad')).toList ++ rest.map (bc_cv g ad) = (bc_psh v rest).map (bc_cv g ad') := by
    rw [← bc_map_up hV hag]
    cases v <;> rfl
  rw [e1]
  have z1 := bc_SZ_mono hn.1
  have z2 := bc_SZ_mono hn.2
  refine kk v h' hM (cells + (nr - np)) (slots + (bc_SZ nr - bc_SZ np)) H1 locs1 ad' lsc (pcb + 3) ⟨hn.2, by omega, by omega⟩ (by omega) hR' hS1 (bc_lh_up hL hn.1 hag) (fun x hx => ?_) (fun i hi => by rw [hag i (by omega)]; exact hA i hi) hp
  cases v with
  | none => exact bc_vo_mono hn.1 (hV x hx)
  | some y =>
    rcases List.mem_cons.mp hx with rfl | hx
    · exact ht _ rfl
    · exact bc_vo_mono hn.1 (hV x hx)
end BCI
end
section
section BCI2
variable {g : bc_GG} {ph : Bool} {p : Program} {l : Launch} {e : Env} {R : Room} {s : State} {m : MethodId} {args : Array Value} {below : List Frame} {meth : Method} {c : Code} {Z : State → Prop} {d k nq mc ms n0 : Nat} {ad0 : Nat → Nat} {idx np : Nat} {ls : bc_L} {st : bc_St} {h : bc_H}
theorem bc_o_static (hall : ∀ n, (0 < n ∧ n < 362) → ¬ (357 < n ∧ n < 361) → bc_ckM n = true ∧ bc_cc n ∈ bc_T) (hC : bc_Cx g p s m args meth c k) (hRm : d + 8 ≤ R.frames ∧ 50 * d + 400 ≤ R.locals) (hcs : mc ≤ R.cells ∧ ms ≤ R.slots) {n : Nat} (hi : (bc_code k)[idx]? = some (.invokestatic n))
    (hx : bc_cal (bc_Snd g ph) false d n nq np st h (fun nr st h => bc_At g ph p l e R s m args below meth c Z k nq mc ms n0 ad0 (idx + 1) nr ls st h)) : bc_At g ph p l e R s m args below meth c Z k nq mc ms n0 ad0 idx np ls st h := by
  obtain ⟨d', nr, M, as, rest, rfl, rfl, hlen, hn, hc8, hca, -, hP, hK⟩ := bc_cal_in hx
  intro cells slots H locs ad lsc pcb hF h0 hR hS hL hV hA hp
  obtain ⟨j, len, wi, hd, hr⟩ := bc_rw0 hC.2.2.2.2.2.2.2.2 hi hp
  unfold bc_rel at hr
  simp only [Bool.and_eq_true, decide_eq_true_eq] at hr
  obtain ⟨⟨⟨⟨hnx, rfl⟩, hnn⟩, hcnt⟩, hm⟩ := hr
  split at hm
  · rename_i q
    simp only [Bool.and_eq_true, Bool.or_eq_true, decide_eq_true_eq] at hm
    obtain ⟨⟨w1, w2⟩, w3⟩ := hm
    obtain ⟨hck, hcc⟩ := hall n hnn.1 hnn.2
    obtain ⟨k1, k2, k3, k4, k5, k6, k7, k8, k9⟩ := bc_ck_all hck
    have hVa : ∀ v ∈ as, bc_vo np v := fun v hv => hV v (List.mem_append_left _ (List.mem_reverse.mpr hv))
    have hVr : ∀ v ∈ rest, bc_vo np v := fun v hv => hV v (List.mem_append_right _ hv)
    have hM := bc_met l ad hP hck hn.1 hca hVa
    have hts := hC.2.2.2.2.1
    have hfix : CallFix p m c (bc_mi k).2.2.1 (bc_mi k).2.2.2.1 s args bc_T (bc_mi k).1 := ⟨hC.1, hC.2.1, hC.2.2.1, hC.2.2.2.1, hts⟩
    have z1 := bc_SZ_mono hn.1
    have z2 := bc_SZ_mono hn.2
    have hfit : cells + (nr - np) ≤ R.cells ∧ slots + (bc_SZ nr - bc_SZ np) ≤ R.slots := ⟨by omega, by omega⟩
    have hstk : (F0 m pcb lsc ((as.reverse ++ rest).map (bc_cv g ad))).stack = (as.map (bc_cv g ad)).reverse ++ rest.map (bc_cv g ad) := by
      show (as.reverse ++ rest).map (bc_cv g ad) = _
      rw [List.map_append, List.map_reverse]
    have hrm : (({ frames := d' + 8, cells := nr - np, slots := bc_SZ nr - bc_SZ np, locals := 50 * d' + 400 } : Room).frames + 1 ≤ R.frames ∧ 8 + ((bc_mi n).2.2.2.1 + 11) + ({ frames := d' + 8, cells := nr - np, slots := bc_SZ nr - bc_SZ np, locals := 50 * d' + 400 } : Room).locals ≤ R.locals) := by
      constructor
      · show d' + 8 + 1 ≤ _; omega
      · show 8 + ((bc_mi n).2.2.2.1 + 11) + (50 * d' + 400) ≤ _; omega
    rcases w1 with w1 | w1
    · refine bc_after (va_runS (n := (bc_mt n).1) hfix hM ⟨callB_of (own := (bc_mi k).1) (index := q) (bc_mt n).1 hts (bc_goodC hcc) rfl rfl rfl (hts _ (bc_wd_in w3)) (hts _ (bc_wd_in w1)) ⟨k6, k7, by rw [hcnt]; exact k9⟩ hrm, hts _ (bc_wd_in w2)⟩ ⟨bc_blind, bc_pre hC hR hS⟩ rfl (by rw [List.length_map]; exact hlen) hL.1 hstk (bc_room8 hc8) hd hfit) hn hF h0 hS hL hVr hA hnx hK
    · refine bc_after (va_runSN (n := (bc_mt n).1) (host := "BeastCave") hfix hM ⟨va_cnB (own := (bc_mi k).1) (index := q) (bc_mt n).1 hts (bc_goodC hcc) rfl rfl rfl (hC.2.2.2.2.2.2.2.1.2.2.2.2.2.2.2.2.2.1 _ w1) (hts _ (bc_wd_in w3)) ⟨k6, k7, by rw [hcnt]; exact k9⟩ hrm, hts _ (bc_wd_in w2), trivial⟩ ⟨bc_blind, bc_pre hC hR hS⟩ rfl (by rw [List.length_map]; exact hlen) hL.1 hstk (bc_room8 hc8) hd hfit) hn hF h0 hS hL hVr hA hnx hK
  · cases hm
end BCI2
end
section
section BCI3
variable {g : bc_GG} {ph : Bool} {p : Program} {l : Launch} {e : Env} {R : Room} {s : State} {m : MethodId} {args : Array Value} {below : List Frame} {meth : Method} {c : Code} {Z : State → Prop} {d k nq mc ms n0 : Nat} {ad0 : Nat → Nat} {idx np : Nat} {ls : bc_L} {st : bc_St} {h : bc_H}
theorem bc_o_virtual (hall : ∀ n, (0 < n ∧ n < 362) → ¬ (357 < n ∧ n < 361) → bc_ckM n = true ∧ bc_cc n ∈ bc_T) (hC : bc_Cx g p s m args meth c k) (hRm : d + 8 ≤ R.frames ∧ 50 * d + 400 ≤ R.locals) (hcs : mc ≤ R.cells ∧ ms ≤ R.slots) {n : Nat} (hi : (bc_code k)[idx]? = some (.invokevirtual n))
    (hx : bc_cal (bc_Snd g ph) true d n nq np st h (fun nr st h => bc_At g ph p l e R s m args below meth c Z k nq mc ms n0 ad0 (idx + 1) nr ls st h)) : bc_At g ph p l e R s m args below meth c Z k nq mc ms n0 ad0 idx np ls st h := by
  obtain ⟨d', nr, M, as, rest, rfl, rfl, hlen, hn, hc8, hca, hhd, hP, hK⟩ := bc_cal_in hx
  have hhd := hhd rfl
  unfold bc_hd at hhd
  split at hhd
  · rename_i cl r as _
    have hcl := Nat.eq_of_beq_eq_true hhd
    intro cells slots H locs ad lsc pcb hF h0 hR hS hL hV hA hp
    obtain ⟨j, len, wi, hd, hr⟩ := bc_rw0 hC.2.2.2.2.2.2.2.2 hi hp
    unfold bc_rel at hr
    simp only [Bool.and_eq_true, decide_eq_true_eq] at hr
    obtain ⟨⟨⟨⟨⟨⟨hnx, rfl⟩, hnn⟩, hcnt⟩, hcc1⟩, hcc2⟩, hm⟩ := hr
    split at hm
    · rename_i q
      simp only [Bool.and_eq_true, Bool.or_eq_true, decide_eq_true_eq] at hm
      obtain ⟨⟨⟨w1, w2⟩, w3⟩, w4⟩ := hm
      obtain ⟨hck, hcc⟩ := hall n hnn.1 hnn.2
      obtain ⟨k1, k2, k3, k4, k5, k6, k7, k8, k9⟩ := bc_ck_all hck
      have hVa : ∀ v ∈ (.inr (.inr ((0, cl), r)) :: as : bc_St), bc_vo np v := fun v hv => hV v (List.mem_append_left _ (List.mem_reverse.mpr hv))
      have hVr : ∀ v ∈ rest, bc_vo np v := fun v hv => hV v (List.mem_append_right _ hv)
      obtain ⟨i0, rfl, hi1, hs, hc, -⟩ := bc_arr (g := g) (ad := ad) (h := h) (hVa _ List.mem_cons_self) (by show 0 < 7; decide)
      have hM := bc_met l ad hP hck hn.1 hca hVa
      have hts := hC.2.2.2.2.1
      have hfix : CallFix p m c (bc_mi k).2.2.1 (bc_mi k).2.2.2.1 s args bc_T (bc_mi k).1 := ⟨hC.1, hC.2.1, hC.2.2.1, hC.2.2.2.1, hts⟩
      have z1 := bc_SZ_mono hn.1
      have z2 := bc_SZ_mono hn.2
      have hfit : cells + (nr - np) ≤ R.cells ∧ slots + (bc_SZ nr - bc_SZ np) ≤ R.slots := ⟨by omega, by omega⟩
      have hmap : (.inr (.inr ((0, cl), (i0 : Int))) :: as : bc_St).map (bc_cv g ad) = .ref (ad i0) :: as.map (bc_cv g ad) := by rw [List.map_cons, hc]
      have hstk : (F0 m pcb lsc (((.inr (.inr ((0, cl), (i0 : Int))) :: as : bc_St).reverse ++ rest).map (bc_cv g ad))).stack = (as.map (bc_cv g ad)).reverse ++ .ref (ad i0) :: rest.map (bc_cv g ad) := by
        show ((.inr (.inr ((0, cl), (i0 : Int))) :: as : bc_St).reverse ++ rest).map (bc_cv g ad) = _
        rw [List.map_append, List.map_reverse, hmap, List.reverse_cons, List.append_assoc]
        rfl
      rw [hmap] at hM
      have hln : (as.map (bc_cv g ad)).length = (bc_mt n).2.2.2.1 := by
        rw [List.length_map]
        rw [List.length_cons] at hlen
        omega
      have hrm : (({ frames := d' + 8, cells := nr - np, slots := bc_SZ nr - bc_SZ np, locals := 50 * d' + 400 } : Room).frames + 1 ≤ R.frames ∧ 8 + ((bc_mi n).2.2.2.1 + 11) + ({ frames := d' + 8, cells := nr - np, slots := bc_SZ nr - bc_SZ np, locals := 50 * d' + 400 } : Room).locals ≤ R.locals) := by
        constructor
        · show d' + 8 + 1 ≤ _; omega
        · show 8 + ((bc_mi n).2.2.2.1 + 11) + (50 * d' + 400) ≤ _; omega
      have hrc : ∃ cellB : Cell, H[ad i0]? = some cellB ∧ cellB.vm.isStatics = false ∧ s.vm.findClass (bc_mi n).2.1.cls = some cellB.cls := by
        obtain ⟨C, T, N, ty, hcK⟩ := bc_cls cl (by rw [hcl]; exact hcc2)
        have hw := bc_ws_get (g := g) (ad := ad) (h := h) hi1
        rw [hs] at hw
        have := va_recv hC.2.2.2.2.2.2.1 hR.1 hcK.1 hw
        rw [← hcc1, ← hcl, hcK.2.2.2.2.2.2.2.1]
        exact this
      refine bc_after (va_runV (C := (bc_mi n).2.1.cls) (n := (bc_mt n).2.2.2.1) hfix hM ⟨callB_of (own := (bc_mi k).1) (index := q) (bc_mt n).2.2.2.1 hts (bc_goodC hcc) rfl rfl rfl (hts _ (bc_wd_in w4)) (hts _ (bc_wd_in w1)) ⟨k6, k7, k9⟩ hrm, hts _ (bc_wd_in w2), hts _ (bc_wd_in w3)⟩ ⟨bc_blind, hrc, bc_pre hC hR hS⟩ rfl hln hL.1 hstk (bc_room8 hc8) hd hfit) hn hF h0 hS hL hVr hA hnx hK
    · cases hm
  · cases hhd
end BCI3
end
section
section BCI4
variable {g : bc_GG} {ph : Bool} {p : Program} {l : Launch} {e : Env} {R : Room} {s : State} {m : MethodId} {args : Array Value} {below : List Frame} {meth : Method} {c : Code} {Z : State → Prop} {d k nq mc ms n0 : Nat} {ad0 : Nat → Nat} {idx np : Nat} {ls : bc_L} {st : bc_St} {h : bc_H}
theorem bc_o_special (hall : ∀ n, (0 < n ∧ n < 362) → ¬ (357 < n ∧ n < 361) → bc_ckM n = true ∧ bc_cc n ∈ bc_T) (hC : bc_Cx g p s m args meth c k) (hRm : d + 8 ≤ R.frames ∧ 50 * d + 400 ≤ R.locals) (hcs : mc ≤ R.cells ∧ ms ≤ R.slots) {n : Nat} (hi : (bc_code k)[idx]? = some (.invokespecial n))
    (hx : bc_cal (bc_Snd g ph) true d n nq np st h (fun nr st h => bc_At g ph p l e R s m args below meth c Z k nq mc ms n0 ad0 (idx + 1) nr ls st h)) : bc_At g ph p l e R s m args below meth c Z k nq mc ms n0 ad0 idx np ls st h := by
  obtain ⟨d', nr, M, as, rest, rfl, rfl, hlen, hn, hc8, hca, hhd, hP, hK⟩ := bc_cal_in hx
  have hhd := hhd rfl
  unfold bc_hd at hhd
  split at hhd
  · rename_i cl r as _
    have hcl := Nat.eq_of_beq_eq_true hhd
    intro cells slots H locs ad lsc pcb hF h0 hR hS hL hV hA hp
    obtain ⟨j, len, wi, hd, hr⟩ := bc_rw0 hC.2.2.2.2.2.2.2.2 hi hp
    unfold bc_rel at hr
    simp only [Bool.and_eq_true, decide_eq_true_eq] at hr
    obtain ⟨⟨⟨⟨⟨⟨⟨⟨hnx, rfl⟩, hnn⟩, hcnt⟩, hcc1⟩, hcc2⟩, hin⟩, hrn⟩, hm⟩ := hr
    split at hm
    · rename_i q
      simp only [Bool.and_eq_true, Bool.or_eq_true, decide_eq_true_eq] at hm
      obtain ⟨⟨w1, w2⟩, w3⟩ := hm
      obtain ⟨hck, hcc⟩ := hall n hnn.1 hnn.2
      obtain ⟨k1, k2, k3, k4, k5, k6, k7, k8, k9⟩ := bc_ck_all hck
      have hVa : ∀ v ∈ (.inr (.inr ((0, cl), r)) :: as : bc_St), bc_vo np v := fun v hv => hV v (List.mem_append_left _ (List.mem_reverse.mpr hv))
      have hVr : ∀ v ∈ rest, bc_vo np v := fun v hv => hV v (List.mem_append_right _ hv)
      obtain ⟨i0, rfl, hi1, hs, hc, -⟩ := bc_arr (g := g) (ad := ad) (h := h) (hVa _ List.mem_cons_self) (by show 0 < 7; decide)
      have hM := bc_met l ad hP hck hn.1 hca hVa
      have hts := hC.2.2.2.2.1
      have hfix : CallFix p m c (bc_mi k).2.2.1 (bc_mi k).2.2.2.1 s args bc_T (bc_mi k).1 := ⟨hC.1, hC.2.1, hC.2.2.1, hC.2.2.2.1, hts⟩
      have z1 := bc_SZ_mono hn.1
      have z2 := bc_SZ_mono hn.2
      have hfit : cells + (nr - np) ≤ R.cells ∧ slots + (bc_SZ nr - bc_SZ np) ≤ R.slots := ⟨by omega, by omega⟩
      have hmap : (.inr (.inr ((0, cl), (i0 : Int))) :: as : bc_St).map (bc_cv g ad) = .ref (ad i0) :: as.map (bc_cv g ad) := by rw [List.map_cons, hc]
      have hstk : (F0 m pcb lsc (((.inr (.inr ((0, cl), (i0 : Int))) :: as : bc_St).reverse ++ rest).map (bc_cv g ad))).stack = (as.map (bc_cv g ad)).reverse ++ .ref (ad i0) :: rest.map (bc_cv g ad) := by
        show ((.inr (.inr ((0, cl), (i0 : Int))) :: as : bc_St).reverse ++ rest).map (bc_cv g ad) = _
        rw [List.map_append, List.map_reverse, hmap, List.reverse_cons, List.append_assoc]
        rfl
      rw [hmap] at hM
      have hln : (as.map (bc_cv g ad)).length = (bc_mt n).2.2.2.1 := by
        rw [List.length_map]
        rw [List.length_cons] at hlen
        omega
      have hrm : (({ frames := d' + 8, cells := nr - np, slots := bc_SZ nr - bc_SZ np, locals := 50 * d' + 400 } : Room).frames + 1 ≤ R.frames ∧ 8 + ((bc_mi n).2.2.2.1 + 11) + ({ frames := d' + 8, cells := nr - np, slots := bc_SZ nr - bc_SZ np, locals := 50 * d' + 400 } : Room).locals ≤ R.locals) := by
        constructor
        · show d' + 8 + 1 ≤ _; omega
        · show 8 + ((bc_mi n).2.2.2.1 + 11) + (50 * d' + 400) ≤ _; omega
      unfold bc_cc at hM hcc
      rw [hrn] at hM hcc
      rcases w1 with w1 | w1
      · refine bc_after (va_runI (n := (bc_mt n).2.2.2.1) hfix hM ⟨callB_of (own := (bc_mi k).1) (index := q) (bc_mt n).2.2.2.1 hts (bc_goodC hcc) rfl rfl rfl (hts _ (bc_wd_in w3)) (hts _ (bc_wd_in w1)) ⟨k6, k7, k9⟩ hrm, hin, hts _ (bc_wd_in w2)⟩ ⟨bc_blind, bc_pre hC hR hS⟩ rfl hln hL.1 hstk (bc_room8 hc8) hd hfit) hn hF h0 hS hL hVr hA hnx hK
      · refine bc_after (va_runIN (n := (bc_mt n).2.2.2.1) (host := "BeastCave") hfix hM ⟨va_cnB (own := (bc_mi k).1) (index := q) (bc_mt n).2.2.2.1 hts (bc_goodC hcc) rfl rfl rfl (hC.2.2.2.2.2.2.2.1.2.2.2.2.2.2.2.2.2.1 _ w1) (hts _ (bc_wd_in w3)) ⟨k6, k7, k9⟩ hrm, hin, hts _ (bc_wd_in w2)⟩ ⟨bc_blind, bc_pre hC hR hS⟩ rfl hln hL.1 hstk (bc_room8 hc8) hd hfit) hn hF h0 hS hL hVr hA hnx hK
    · cases hm
  · cases hhd
end BCI4
end
section
/-! new cells -/
def bc_ad (ad : Nat → Nat) (np q : Nat) : Nat → Nat := fun i => if i = np then q else ad i
theorem bc_ad_lt {ad : Nat → Nat} {np q i : Nat} (hi : i < np) : bc_ad ad np q i = ad i := if_neg (by omega)
theorem bc_ad_at {ad : Nat → Nat} {np q : Nat} : bc_ad ad np q np = q := if_pos rfl
theorem bc_rr_up {ad ad' : Nat → Nat} {np : Nat} {x : Int} (ha : ∀ i, i < np → ad' i = ad i) (hx : 0 ≤ x → x.toNat < np) : bc_rr ad' x = bc_rr ad x := by
  unfold bc_rr
  split
  · rfl
  · rw [ha _ (hx (by omega))]
theorem bc_fk_lt {np : Nat} {ft : Nat × Nat} {x : Int} (h : bc_fk np ft x) : ft.1 = 10 ∨ ft.1 = 11 ∨ ft.1 = 12 ∨ (0 ≤ x → x.toNat < np) := by
  unfold bc_fk at h
  split at h
  · rename_i q; exact Or.inl q
  · rename_i q; exact Or.inr (Or.inl q)
  · rename_i q; exact Or.inr (Or.inr (Or.inl q))
  · exact Or.inr (Or.inr (Or.inr (fun z => (h.2 z).1)))
theorem bc_cf_up {ad ad' : Nat → Nat} {np : Nat} {ft : Nat × Nat} {x : Int} (ha : ∀ i, i < np → ad' i = ad i) (h : bc_fk np ft x) : bc_cf ad' ft x = bc_cf ad ft x := by
  unfold bc_cf
  split
  · rfl
  · rfl
  · rfl
  · rename_i q1 q2 q3
    rcases bc_fk_lt h with z | z | z | z
    · exact absurd z q1
    · exact absurd z q2
    · exact absurd z q3
    · rw [bc_rr_up ha z]
theorem bc_ce_up {g : bc_GG} {ad ad' : Nat → Nat} {np : Nat} {sh : Nat × Nat} {f : Int → Int} (ha : ∀ i, i < np → ad' i = ad i) (h : bc_ck np sh f) : bc_ce g ad' sh f = bc_ce g ad sh f := by
  unfold bc_ck at h
  split at h
  · show Sum.inr (_, _) = Sum.inr (_, _)
    refine congrArg (fun z => Sum.inr (_, z)) (List.map_congr_left (fun j hj => bc_cf_up ha (h j (List.mem_range.mp hj))))
  · rfl
  · rfl
  · rfl
  · rfl
  · rename_i n
    show Sum.inl (bc_cA g 4, n, Sum.inr (Sum.inr (Sum.inr (Sum.inr (fun j : Nat => if j < n then bc_rr ad' (f j) else none))))) = Sum.inl (bc_cA g 4, n, Sum.inr (Sum.inr (Sum.inr (Sum.inr (fun j : Nat => if j < n then bc_rr ad (f j) else none)))))
    have e : (fun j : Nat => if j < n then bc_rr ad' (f j) else none) = (fun j : Nat => if j < n then bc_rr ad (f j) else none) := by
      funext j
      by_cases hj : j < n
      · rw [if_pos hj, if_pos hj, bc_rr_up ha (fun z => (((bc_fk_r (by show 0 < 7; decide)).mp (h j hj)) z).1)]
      · rw [if_neg hj, if_neg hj]
    rw [e]
  · rename_i n
    show Sum.inl (bc_cA g 5, n, Sum.inr (Sum.inr (Sum.inr (Sum.inr (fun j : Nat => if j < n then bc_rr ad' (f j) else none))))) = Sum.inl (bc_cA g 5, n, Sum.inr (Sum.inr (Sum.inr (Sum.inr (fun j : Nat => if j < n then bc_rr ad (f j) else none)))))
    have e : (fun j : Nat => if j < n then bc_rr ad' (f j) else none) = (fun j : Nat => if j < n then bc_rr ad (f j) else none) := by
      funext j
      by_cases hj : j < n
      · rw [if_pos hj, if_pos hj, bc_rr_up ha (fun z => (((bc_fk_r (by show 0 < 7; decide)).mp (h j hj)) z).1)]
      · rw [if_neg hj, if_neg hj]
    rw [e]
  · exact h.elim
theorem bc_sh_of {np : Nat} {sh : Nat × Nat} (h : bc_SH[np]? = some sh) : bc_sh np = sh := by
  unfold bc_sh
  rw [List.getD_eq_getElem?_getD, h]
  rfl
theorem bc_SH_all : bc_SH.all (fun q => decide (q.1 < 7)) = true := by decide +kernel
theorem bc_SH_lt {np : Nat} {sh : Nat × Nat} (h : bc_SH[np]? = some sh) : sh.1 < 7 := by
  have := List.all_eq_true.mp bc_SH_all sh (List.mem_of_getElem? h)
  simpa using this
theorem bc_SZ_succ {np : Nat} {sh : Nat × Nat} (h : bc_SH[np]? = some sh) : bc_SZ (np + 1) = bc_SZ np + bc_sz sh := by
  unfold bc_SZ
  rw [List.take_add_one, h, List.map_append, List.sum_append]
  rfl
theorem bc_new_ne {h : bc_H} {np : Nat} {sh : Nat × Nat} {i : Int} (hi : i ≠ (np : Int)) : bc_new h np sh i = h i := by
  unfold bc_new bc_row
  split <;> (funext b; exact if_neg hi)
theorem bc_R_push {g : bc_GG} {ad : Nat → Nat} {h h' : bc_H} {np q : Nat} {H H1 : Heap} {sh : Nat × Nat} {E : va_E} (hR : bc_R g false ad h np H) (hsh : bc_sh np = sh) (hh : ∀ i : Int, i ≠ (np : Int) → h' i = h i) (hE : bc_ce g (bc_ad ad np q) sh (h' np) = E) (hk : bc_ck (np + 1) sh (h' np))
    (hP : va_P (bc_D g) vwCl (bc_ws g ad h np ++ [(q, E)]) H1) (hD : va_D (bc_A g) (bc_ws g ad h np ++ [(q, E)])) : bc_R g false (bc_ad ad np q) h' (np + 1) H1 := by
  obtain ⟨-, -, h3, -, h5, h6⟩ := hR
  have e : bc_ws g (bc_ad ad np q) h' (np + 1) = bc_ws g ad h np ++ [(q, E)] := by
    unfold bc_ws
    rw [List.range_succ, List.map_append]
    congr 1
    · refine List.map_congr_left (fun i hi => ?_)
      have hi := List.mem_range.mp hi
      rw [bc_ad_lt hi, hh i (by omega), bc_ce_up (fun j hj => bc_ad_lt hj) (h3 i hi)]
    · rw [List.map_cons, List.map_nil, bc_ad_at, hsh, hE]
  refine ⟨e ▸ hP, e ▸ hD, fun i hi => ?_, fun z => (by cases z), fun z => (by cases z), fun z => (by cases z)⟩
  · by_cases hz : i = np
    · subst hz; rw [hsh]; exact hk
    · rw [hh i (by omega)]
      exact bc_ck_mono (Nat.le_succ np) (h3 i (by omega))
def bc_z0 (ft : Nat × Nat) : Int := match ft with | (10, _) => 0 | (11, _) => 0 | (12, _) => 0 | _ => -1
theorem bc_z0_ok {ft : Nat × Nat} {ty : FieldType} {fo : Option Int} (h : bc_kin ft ty fo = true) (ad : Nat → Nat) (np : Nat) : defaultValue ty = bc_cf ad ft (bc_z0 ft) ∧ bc_fk np ft (bc_z0 ft) := by
  obtain ⟨a, b⟩ := ft
  unfold bc_kin at h
  split at h
  · rename_i q
    dsimp only at q
    subst q
    simp only [Bool.and_eq_true, decide_eq_true_eq] at h
    rw [h.1]
    exact ⟨rfl, ⟨by show _ ≤ (0 : Int); decide, by show (0 : Int) < _; decide⟩⟩
  · rename_i q
    dsimp only at q
    subst q
    simp only [Bool.and_eq_true, decide_eq_true_eq] at h
    rw [h.1]
    exact ⟨rfl, ⟨by show _ ≤ (0 : Int); decide, by show (0 : Int) < _; decide⟩⟩
  · rename_i q
    dsimp only at q
    subst q
    simp only [Bool.and_eq_true, decide_eq_true_eq] at h
    rw [h.1]
    exact ⟨rfl, Or.inl rfl⟩
  · simp only [Bool.and_eq_true, decide_eq_true_eq] at h
    obtain ⟨h1, h2⟩ := h
    have hc : a = 0 ∨ a = 1 ∨ a = 2 ∨ a = 3 ∨ a = 4 ∨ a = 5 ∨ a = 6 := by omega
    have hd : defaultValue ty = .null := by cases ty <;> first | rfl | cases h2
    rw [hd]
    rcases hc with rfl | rfl | rfl | rfl | rfl | rfl | rfl <;> exact ⟨rfl, ⟨h1, fun z => absurd z (show ¬ (0 : Int) ≤ -1 by decide)⟩⟩
section BCN
variable {g : bc_GG} {ph : Bool} {p : Program} {l : Launch} {e : Env} {R : Room} {s : State} {m : MethodId} {args : Array Value} {below : List Frame} {meth : Method} {c : Code} {Z : State → Prop} {d k nq mc ms n0 : Nat} {ad0 : Nat → Nat} {idx np : Nat} {ls : bc_L} {st : bc_St} {h : bc_H}
theorem bc_hA (hX : bc_X g s s.heap) : ∀ q, s.heap.size ≤ q → bc_A g q := fun q hq => by
  have := hX.2.2.1
  show bc_q0 g ≤ q
  omega
/-- on from a new cell -/
theorem bc_on {H1 : Heap} {locs : List Loc} {ad : Nat → Nat} {lsc : Array Slot} {pcb q len cells slots : Nat} {sh : Nat × Nat} {h' : bc_H} (hsh : bc_SH[np]? = some sh) (hnq : np + 1 ≤ nq) (hF : np ≤ nq ∧ cells + (nq - np) = mc ∧ slots + (bc_SZ nq - bc_SZ np) = ms) (h0 : n0 ≤ np) (hR : bc_R g false (bc_ad ad np q) h' (np + 1) H1) (hS : va_S (bc_A g) s.heap H1 locs) (hL : bc_lh g ad np (bc_mi k).2.2.2.1 lsc ls) (hV : ∀ v ∈ st, bc_vo np v) (hA : ∀ i, i < n0 → ad i = ad0 i) (hp : bc_pc k (idx + 1) = some (pcb + len))
    (hx : bc_At g false p l e R s m args below meth c Z k nq mc ms n0 ad0 (idx + 1) (np + 1) ls (.inr (.inr (sh, (np : Int))) :: st) h') : W p l e R s m args below meth c H1 locs (cells + 1) (slots + bc_sz sh) Z (F0 m (pcb + len) lsc (.ref q :: st.map (bc_cv g ad))) := by
  have hlt := bc_SH_lt hsh
  have ha : ∀ i, i < np → bc_ad ad np q i = ad i := fun i hi => bc_ad_lt hi
  have e1 : (.ref q :: st.map (bc_cv g ad)) = (.inr (.inr (sh, (np : Int))) :: st : bc_St).map (bc_cv g (bc_ad ad np q)) := by
    rw [List.map_cons, bc_map_up hV ha]
    congr 1
    unfold bc_cv
    dsimp only
    rw [if_neg (by omega), if_neg (by omega), Int.toNat_natCast, bc_ad_at]
  rw [e1]
  have z1 := bc_SZ_succ hsh
  have z2 := bc_SZ_mono hnq
  refine hx (cells + 1) (slots + bc_sz sh) H1 locs (bc_ad ad np q) lsc (pcb + len) ⟨hnq, by omega, by omega⟩ (by omega) hR hS (bc_lh_up hL (Nat.le_succ np) ha) (fun v hv => ?_) (fun i hi => by rw [bc_ad_lt (by omega)]; exact hA i hi) hp
  rcases List.mem_cons.mp hv with rfl | hv
  · exact Or.inr (Or.inr ⟨hlt, Int.natCast_nonneg np, by rw [Int.toNat_natCast]; omega, by rw [Int.toNat_natCast]; exact bc_sh_of hsh⟩)
  · exact bc_vo_mono (Nat.le_succ np) (hV v hv)
theorem bc_fit {sh : Nat × Nat} {cells slots : Nat} (hcs : mc ≤ R.cells ∧ ms ≤ R.slots) (hsh : bc_SH[np]? = some sh) (hnq : np + 1 ≤ nq) (hF : np ≤ nq ∧ cells + (nq - np) = mc ∧ slots + (bc_SZ nq - bc_SZ np) = ms) : cells + 1 ≤ R.cells ∧ slots + bc_sz sh ≤ R.slots := by
  have z1 := bc_SZ_succ hsh
  have z2 := bc_SZ_mono hnq
  exact ⟨by omega, by omega⟩
theorem bc_o_new (hC : bc_Cx g p s m args meth c k) (hcs : mc ≤ R.cells ∧ ms ≤ R.slots) {n : Nat} (hi : (bc_code k)[idx]? = some (.new n)) (hsh : bc_SH[np]? = some (0, n)) (hnq : np + 1 ≤ nq)
    (hx : bc_At g false p l e R s m args below meth c Z k nq mc ms n0 ad0 (idx + 1) (np + 1) ls (.inr (.inr ((0, n), (np : Int))) :: st) (bc_new h np (0, n))) : bc_At g false p l e R s m args below meth c Z k nq mc ms n0 ad0 idx np ls st h := by
  intro cells slots H locs ad lsc pcb hF h0 hR hS hL hV hA hp
  obtain ⟨j, len, wi, hd, hr⟩ := bc_rw0 hC.2.2.2.2.2.2.2.2 hi hp
  unfold bc_rel at hr
  simp only [Bool.and_eq_true, decide_eq_true_eq] at hr
  obtain ⟨⟨⟨hnx, rfl⟩, hn13⟩, hm⟩ := hr
  split at hm
  · rename_i q
    simp only [Bool.and_eq_true] at hm
    obtain ⟨⟨w1, w2⟩, w3⟩ := hm
    obtain ⟨C, T, N, ty, hcK⟩ := bc_cls n hn13
    obtain ⟨c1, c2, c3, c4, c5, c6, c7, c8, c9⟩ := hcK
    rw [c8] at w1 w2 w3
    rw [c9] at w2
    have hts := hC.2.2.2.2.1
    have hfit := bc_fit hcs hsh hnq hF
    have hsz : bc_sz (0, n) = N := c2.symm
    rw [hsz] at hfit
    have hat : ∀ j : Nat, bc_new h np (0, n) np j = bc_z0 (bc_ft n j) := by
      intro j
      show (if (np : Int) = np then _ else _) = _
      rw [if_pos rfl, Int.toNat_natCast]
      rfl
    refine va_new hC.1 hC.2.1 hts c3 ty c4 hC.2.2.2.1 (hts _ (bc_wd_in w1)) (hts _ (bc_wd_in w2)) (hts _ (bc_wd_in w3)) hC.2.2.2.2.2.2.1 hR.1 hR.2.1 hS (bc_hA hC.2.2.2.2.2.2.2.1) c1 (fs := (List.range (bc_nf n)).map (fun j : Nat => bc_cf ad (bc_ft n j) (bc_z0 (bc_ft n j)))) (fun j hj => ?_) hfit.1 hfit.2 hd (fun q H1 hP hD hS1 => ?_)
    · unfold vp_V
      rw [List.getD_eq_getElem?_getD, List.getElem?_map, List.getElem?_range (by rw [← c2]; exact hj)]
      exact (bc_z0_ok (c7 j hj) ad np).1
    · rw [← hsz]
      refine bc_on hsh hnq hF h0 (bc_R_push hR (bc_sh_of hsh) (fun i hi => bc_new_ne hi) ?_ ?_ hP hD) hS1 hL hV hA hnx hx
      · show Sum.inr (_, _) = Sum.inr (_, _)
        refine congrArg (fun z => Sum.inr (_, z)) (List.map_congr_left (fun j hj => ?_))
        rw [hat j]
        exact bc_cf_up (np := np) (fun i hi => bc_ad_lt hi) (bc_z0_ok (c7 j (by rw [c2]; exact List.mem_range.mp hj)) ad np).2
      · intro j hj
        rw [hat j]
        exact (bc_z0_ok (c7 j (by rw [c2]; exact hj)) ad (np + 1)).2
  · cases hm
end BCN
end
section
section BCM
variable {g : bc_GG} {ph : Bool} {p : Program} {l : Launch} {e : Env} {R : Room} {s : State} {m : MethodId} {args : Array Value} {below : List Frame} {meth : Method} {c : Code} {Z : State → Prop} {d k nq mc ms n0 : Nat} {ad0 : Nat → Nat} {idx np : Nat} {ls : bc_L} {st : bc_St} {h : bc_H}
/-- one kind of arrays: its slot in the table of array classes, and what a new one holds -/
theorem bc_newA (hC : bc_Cx g p s m args meth c k) (hcs : mc ≤ R.cells ∧ ms ≤ R.slots) {aty : ArrayType} {ty : FieldType} {b n t0 : Nat} {A0 : vp_A} (hi : (bc_code k)[idx]? = some (.newarray aty)) (hsh : bc_SH[np]? = some (b, n)) (hnq : np + 1 ≤ nq)
    (hty : newarray.typeOf aty = ty) (ht0 : (bc_ty g)[t0]? = some (bc_cA g t0, ty)) (hra : ∀ cA, va_RA s cA ty → va_RA s (bc_cA g t0) ty → cA = bc_cA g t0) (hcb : componentBytes ty ≤ 8) (ha0 : ∀ cA : ClassId, vp_cell cA A0 = arrV cA n (fun _ => defaultValue ty)) (hbs : bc_sz (b, n) = n)
    (hce : ∀ ad' : Nat → Nat, bc_ce g ad' (b, n) (bc_new h np (b, n) np) = .inl (bc_cA g t0, A0)) (hck : bc_ck (np + 1) (b, n) (bc_new h np (b, n) np))
    (hx : bc_At g false p l e R s m args below meth c Z k nq mc ms n0 ad0 (idx + 1) (np + 1) ls (.inr (.inr ((b, n), (np : Int))) :: st) (bc_new h np (b, n))) : bc_At g false p l e R s m args below meth c Z k nq mc ms n0 ad0 idx np ls (.inl (n : Int) :: st) h := by
  intro cells slots H locs ad lsc pcb hF h0 hR hS hL hV hA hp
  obtain ⟨j, len, wi, hd, hr⟩ := bc_rw0 hC.2.2.2.2.2.2.2.2 hi hp
  unfold bc_rel at hr
  simp only [Bool.and_eq_true, decide_eq_true_eq] at hr
  obtain ⟨⟨⟨hnx, rfl⟩, rfl⟩, w1⟩ := hr
  have hts := hC.2.2.2.2.1
  have hfit := bc_fit hcs hsh hnq hF
  have hsm := bc_sh_small np
  rw [bc_sh_of hsh] at hsm
  have hsm : n < 100000 := hsm
  obtain ⟨q1, q2⟩ := bc_nn (z := (n : Int)) (Int.natCast_nonneg n) (Int.le_refl _) hsm
  rw [Int.toNat_natCast] at q2
  rw [hbs] at hfit
  have hb : n * componentBytes ty ≤ 536870912 := Nat.le_trans (Nat.mul_le_mul_left n hcb) (by omega)
  have hK := hC.2.2.2.2.2.2.1
  refine va_newa hC.1 hC.2.1 (hts _ (bc_wd_in w1)) hty hK hR.1 hR.2.1 hS (bc_hA hC.2.2.2.2.2.2.2.1) (a0 := A0) ha0 q1 q2 hb hfit.1 hfit.2 hd (fun q cA H1 hK1 hP hD hS1 => ?_)
  have hcA : cA = bc_cA g t0 := hra cA (hK1.2 6 (cA, ty) rfl).2 (hK.2 t0 _ ht0).2
  subst hcA
  rw [← hbs]
  exact bc_on hsh hnq hF h0 (bc_R_push hR (bc_sh_of hsh) (fun i hi => bc_new_ne hi) (hce _) hck hP hD) hS1 hL (fun v hv => hV v (List.mem_cons_of_mem _ hv)) hA hnx hx
theorem bc_new0 {h : bc_H} {np b n : Nat} (hb : b = 1 ∨ b = 2 ∨ b = 3 ∨ b = 4) : bc_new h np (b, n) np = fun _ => 0 := by
  rcases hb with rfl | rfl | rfl | rfl <;> (funext j; exact if_pos rfl)
theorem bc_new1 {h : bc_H} {np b n : Nat} (hb : b = 5 ∨ b = 6) : bc_new h np (b, n) np = fun _ => -1 := by
  rcases hb with rfl | rfl <;> (funext j; exact if_pos rfl)
theorem bc_o_newarray (hC : bc_Cx g p s m args meth c k) (hcs : mc ≤ R.cells ∧ ms ≤ R.slots) {aty : ArrayType} {b n : Nat} (hi : (bc_code k)[idx]? = some (.newarray aty)) (hsh : bc_SH[np]? = some (b, n)) (hnq : np + 1 ≤ nq) (hb : b = bc_ak aty)
    (hx : bc_At g false p l e R s m args below meth c Z k nq mc ms n0 ad0 (idx + 1) (np + 1) ls (.inr (.inr ((b, n), (np : Int))) :: st) (bc_new h np (b, n))) : bc_At g false p l e R s m args below meth c Z k nq mc ms n0 ad0 idx np ls (.inl (n : Int) :: st) h := by
  have hlt := bc_SH_lt hsh
  subst hb
  cases aty with
  | int => exact bc_newA (b := 1) hC hcs (ty := .int) (t0 := 0) (A0 := (n, .inl (fun _ => 0))) hi hsh hnq rfl rfl (fun cA h1 h2 => Option.some.inj (h1.symm.trans h2)) (by decide) (fun _ => rfl) rfl (fun ad' => by rw [bc_new0 (Or.inl rfl)]; rfl) (by rw [bc_new0 (Or.inl rfl)]; exact fun j _ => ⟨by show _ ≤ (0 : Int); decide, by show (0 : Int) < _; decide⟩) hx
  | byte => exact bc_newA (b := 2) hC hcs (ty := .byte) (t0 := 1) (A0 := (n, .inl (fun _ => 0))) hi hsh hnq rfl rfl (fun cA h1 h2 => Option.some.inj (h1.symm.trans h2)) (by decide) (fun _ => rfl) rfl (fun ad' => by rw [bc_new0 (Or.inr (Or.inl rfl))]; rfl) (by rw [bc_new0 (Or.inr (Or.inl rfl))]; exact fun j _ => ⟨by show _ ≤ (0 : Int); decide, by show (0 : Int) < _; decide⟩) hx
  | long => exact bc_newA (b := 3) hC hcs (ty := .long) (t0 := 2) (A0 := (n, .inr (.inl (fun _ => 0)))) hi hsh hnq rfl rfl (fun cA h1 h2 => Option.some.inj (h1.symm.trans h2)) (by decide) (fun _ => rfl) rfl (fun ad' => by rw [bc_new0 (Or.inr (Or.inr (Or.inl rfl)))]; rfl) (by rw [bc_new0 (Or.inr (Or.inr (Or.inl rfl)))]; exact fun j _ => ⟨by show _ ≤ (0 : Int); decide, by show (0 : Int) < _; decide⟩) hx
  | boolean => exact bc_newA (b := 4) hC hcs (ty := .boolean) (t0 := 3) (A0 := (n, .inl (fun _ => 0))) hi hsh hnq rfl rfl (fun cA h1 h2 => Option.some.inj (h1.symm.trans h2)) (by decide) (fun _ => rfl) rfl (fun ad' => by rw [bc_new0 (Or.inr (Or.inr (Or.inr rfl)))]; rfl) (by rw [bc_new0 (Or.inr (Or.inr (Or.inr rfl)))]; exact fun j _ => Or.inl rfl) hx
  | _ => exact absurd hlt (by show ¬ 9 < 7; decide)
theorem bc_o_anewarray (hC : bc_Cx g p s m args meth c k) (hcs : mc ≤ R.cells ∧ ms ≤ R.slots) {cn b n : Nat} (hi : (bc_code k)[idx]? = some (.anewarray cn)) (hsh : bc_SH[np]? = some (b, n)) (hnq : np + 1 ≤ nq) (hb : b = cn + 3)
    (hx : bc_At g false p l e R s m args below meth c Z k nq mc ms n0 ad0 (idx + 1) (np + 1) ls (.inr (.inr ((b, n), (np : Int))) :: st) (bc_new h np (b, n))) : bc_At g false p l e R s m args below meth c Z k nq mc ms n0 ad0 idx np ls (.inl (n : Int) :: st) h := by
  intro cells slots H locs ad lsc pcb hF h0 hR hS hL hV hA hp
  obtain ⟨j, len, wi, hd, hr⟩ := bc_rw0 hC.2.2.2.2.2.2.2.2 hi hp
  unfold bc_rel at hr
  simp only [Bool.and_eq_true, decide_eq_true_eq] at hr
  obtain ⟨⟨⟨hnx, rfl⟩, hcn⟩, hm⟩ := hr
  split at hm
  · rename_i q
    have hts := hC.2.2.2.2.1
    have hfit := bc_fit hcs hsh hnq hF
    have hsm := bc_sh_small np
    rw [bc_sh_of hsh] at hsm
    have hsm : n < 100000 := hsm
    obtain ⟨q1, q2⟩ := bc_nn (z := (n : Int)) (Int.natCast_nonneg n) (Int.le_refl _) hsm
    rw [Int.toNat_natCast] at q2
    have hK := hC.2.2.2.2.2.2.1
    have hX := hC.2.2.2.2.2.2.2.1
    rcases hcn with rfl | rfl
    · subst hb
      refine va_newq (C := RX2) hC.1 hC.2.1 hC.2.2.2.1 (hts _ (bc_wd_in hm)) hX.2.2.2.2.2.2.2.2.2.2.1 hK hR.1 hR.2.1 hS (bc_hA hX) q1 q2 (by omega) hfit.1 hfit.2 hd (fun q cA H1 hK1 hP hD hS1 => ?_)
      obtain ⟨_, _, _, _, _, z1⟩ := (hK1.2 6 (cA, .object RX2) rfl).2
      obtain ⟨_, _, _, _, _, z2⟩ := (hK.2 4 (bc_cA g 4, .object RX2) rfl).2
      have hcA : cA = bc_cA g 4 := Option.some.inj (z1.symm.trans z2)
      subst hcA
      refine bc_on hsh hnq hF h0 (bc_R_push hR (bc_sh_of hsh) (fun i hi => bc_new_ne hi) ?_ ?_ hP hD) hS1 hL (fun v hv => hV v (List.mem_cons_of_mem _ hv)) hA hnx hx
      · rw [bc_new1 (Or.inl rfl)]
        show Sum.inl (bc_cA g 4, n, Sum.inr (Sum.inr (Sum.inr (Sum.inr (fun j : Nat => if j < n then bc_rr _ (-1) else none))))) = _
        have e0 : (fun j : Nat => if j < n then bc_rr (bc_ad ad np q) (-1) else none) = (fun _ => none) := by funext j; split <;> rfl
        rw [e0]
      · rw [bc_new1 (Or.inl rfl)]
        exact fun j _ => (bc_fk_r (by show 0 < 7; decide)).mpr (fun z => absurd z (show ¬ (0 : Int) ≤ -1 by decide))
    · subst hb
      refine va_newq (C := RX3) hC.1 hC.2.1 hC.2.2.2.1 (hts _ (bc_wd_in hm)) hX.2.2.2.2.2.2.2.2.2.2.2 hK hR.1 hR.2.1 hS (bc_hA hX) q1 q2 (by omega) hfit.1 hfit.2 hd (fun q cA H1 hK1 hP hD hS1 => ?_)
      obtain ⟨_, _, _, _, _, z1⟩ := (hK1.2 6 (cA, .object RX3) rfl).2
      obtain ⟨_, _, _, _, _, z2⟩ := (hK.2 5 (bc_cA g 5, .object RX3) rfl).2
      have hcA : cA = bc_cA g 5 := Option.some.inj (z1.symm.trans z2)
      subst hcA
      refine bc_on hsh hnq hF h0 (bc_R_push hR (bc_sh_of hsh) (fun i hi => bc_new_ne hi) ?_ ?_ hP hD) hS1 hL (fun v hv => hV v (List.mem_cons_of_mem _ hv)) hA hnx hx
      · rw [bc_new1 (Or.inr rfl)]
        show Sum.inl (bc_cA g 5, n, Sum.inr (Sum.inr (Sum.inr (Sum.inr (fun j : Nat => if j < n then bc_rr _ (-1) else none))))) = _
        have e0 : (fun j : Nat => if j < n then bc_rr (bc_ad ad np q) (-1) else none) = (fun _ => none) := by funext j; split <;> rfl
        rw [e0]
      · rw [bc_new1 (Or.inr rfl)]
        exact fun j _ => (bc_fk_r (by show 0 < 7; decide)).mpr (fun z => absurd z (show ¬ (0 : Int) ≤ -1 by decide))
  · cases hm
end BCM
end
section
/-! branches, switches, ends -/
theorem bc_to_in {k pc : Nat} {off t : Int} (h : bc_to k pc off t = true) : ∃ q, bc_pc k t.toNat = some q ∧ (pc : Int) + off = (q : Int) := by
  unfold bc_to at h
  simp only [Bool.and_eq_true] at h
  have h2 := h.2
  split at h2
  · rename_i q hq
    exact ⟨q, hq, by simpa using h2⟩
  · cases h2
theorem bc_sw_in {J : Nat → Prop} {x : Int} {d : Nat} : ∀ l : List (Int × Int), bc_sw J x d l → match l.find? (fun q => q.1 == x) with | some q => J q.2.toNat | none => J d
  | [], h => h
  | (v, t) :: l, h => by
    rw [List.find?_cons]
    by_cases e : v = x
    · subst e
      have : ((v, t).1 == v) = true := beq_self_eq_true v
      rw [this]
      exact h.1 rfl
    · have : ((v, t).1 == x) = false := beq_eq_false_iff_ne.mpr e
      rw [this]
      exact bc_sw_in l (h.2 (fun z => e z.symm))
theorem bc_lk_sw {k pc : Nat} {t d : Int} {J : Nat → Prop} {x : Int} (hd : bc_to k pc d t = true) : ∀ (qs ps : List (Int × Int)), qs.length = ps.length → (∀ n, n < qs.length → ∃ a b, qs[n]? = some a ∧ ps[n]? = some b ∧ a.1 = b.1 ∧ bc_to k pc a.2 b.2 = true) → bc_sw J x t.toNat ps → ∃ tg : Int, bc_to k pc (Op.lookupswitch.offset qs d x) tg = true ∧ J tg.toNat
  | [], [], _, _, hJ => ⟨t, hd, hJ⟩
  | [], _ :: _, h, _, _ => by cases h
  | _ :: _, [], h, _, _ => by cases h
  | (a, o) :: qs, (b, u) :: ps, h, hh, hJ => by
    obtain ⟨_, _, e1, e2, e3, e4⟩ := hh 0 (Nat.succ_pos _)
    cases e1
    cases e2
    have e3 : a = b := e3
    subst e3
    rw [Op.lookupswitch.offset_cons]
    by_cases e : a = x
    · rw [if_pos e]
      exact ⟨u, e4, hJ.1 e.symm⟩
    · rw [if_neg e]
      exact bc_lk_sw hd qs ps (Nat.succ.inj h) (fun n hn => hh (n + 1) (Nat.succ_lt_succ hn)) (hJ.2 (fun z => e z.symm))
section BCJ
variable {g : bc_GG} {ph : Bool} {p : Program} {l : Launch} {e : Env} {R : Room} {s : State} {m : MethodId} {args : Array Value} {below : List Frame} {meth : Method} {c : Code} {Z : State → Prop} {d k nq mc ms n0 : Nat} {ad0 : Nat → Nat} {idx np : Nat} {ls : bc_L} {st : bc_St} {h : bc_H}
theorem bc_o_goto (hC : bc_Cx g p s m args meth c k) {t : Int} (hi : (bc_code k)[idx]? = some (.goto t)) (hx : bc_At g ph p l e R s m args below meth c Z k nq mc ms n0 ad0 t.toNat np ls st h) : bc_At g ph p l e R s m args below meth c Z k nq mc ms n0 ad0 idx np ls st h := by
  intro cells slots H locs ad lsc pcb hF h0 hR hS hL hV hA hp
  obtain ⟨j, len, wi, hd, hr⟩ := bc_rw0 hC.2.2.2.2.2.2.2.2 hi hp
  unfold bc_rel at hr
  dsimp only at hr
  split at hr
  · simp only [Bool.and_eq_true, decide_eq_true_eq] at hr
    obtain ⟨hr, rfl⟩ := hr
    obtain ⟨q, h1, h2⟩ := bc_to_in hr
    exact lv_goto hC.1 hC.2.1 hd h2 (hx cells slots H locs ad lsc q hF h0 hR hS hL hV hA h1)
  · cases hr
theorem bc_o_if (hC : bc_Cx g p s m args meth c k) {cd : ClassFile.Cond} {t : Int} {a : Int} (hi : (bc_code k)[idx]? = some (.ifCond cd t)) (hy : bc_yes cd a 0 → bc_At g ph p l e R s m args below meth c Z k nq mc ms n0 ad0 t.toNat np ls st h) (hn : bc_not cd a 0 → bc_At g ph p l e R s m args below meth c Z k nq mc ms n0 ad0 (idx + 1) np ls st h) : bc_At g ph p l e R s m args below meth c Z k nq mc ms n0 ad0 idx np ls (.inl a :: st) h := by
  intro cells slots H locs ad lsc pcb hF h0 hR hS hL hV hA hp
  obtain ⟨j, len, wi, hd, hr⟩ := bc_rw0 hC.2.2.2.2.2.2.2.2 hi hp
  unfold bc_rel at hr
  simp only [Bool.and_eq_true, decide_eq_true_eq] at hr
  obtain ⟨hnx, hr⟩ := hr
  split at hr
  · simp only [Bool.and_eq_true, decide_eq_true_eq] at hr
    obtain ⟨⟨rfl, hr⟩, rfl⟩ := hr
    obtain ⟨q, h1, h2⟩ := bc_to_in hr
    have va : bc_i a := hV (.inl a) List.mem_cons_self
    have v0 : bc_i 0 := ⟨by decide, by decide⟩
    have hV' : ∀ v ∈ st, bc_vo np v := fun v hv => hV v (List.mem_cons_of_mem _ hv)
    have ky := fun z => hy z cells slots H locs ad lsc q hF h0 hR hS hL hV' hA h1
    have kn := fun z => hn z cells slots H locs ad lsc (pcb + 3) hF h0 hR hS hL hV' hA hnx
    have f1 : Int32.ofInt a = 0 ↔ a = 0 := bc_eqi va v0
    have f2 : Int32.ofInt a < 0 ↔ a < 0 := bc_lti va v0
    have f3 : 0 ≤ Int32.ofInt a ↔ 0 ≤ a := bc_lei v0 va
    have f4 : 0 < Int32.ofInt a ↔ 0 < a := bc_lti v0 va
    have f5 : Int32.ofInt a ≤ 0 ↔ a ≤ 0 := bc_lei va v0
    cases cd with
    | eq => exact lv_if_eq hC.1 hC.2.1 hd h2 (fun z => ky (f1.mp z)) (fun z => kn (fun w => z (f1.mpr w)))
    | ne => exact lv_if_ne hC.1 hC.2.1 hd h2 (fun z => ky (fun w => z (f1.mpr w))) (fun z => kn (f1.mp z))
    | lt => exact lv_if_lt hC.1 hC.2.1 hd h2 (fun z => ky (f2.mp z)) (fun z => kn (Int.not_lt.mp (fun w => z (f2.mpr w))))
    | ge => exact lv_if_ge hC.1 hC.2.1 hd h2 (fun z => ky (f3.mp z)) (fun z => kn (Int.not_le.mp (fun w => z (f3.mpr w))))
    | gt => exact lv_if_gt hC.1 hC.2.1 hd h2 (fun z => ky (f4.mp z)) (fun z => kn (Int.not_lt.mp (fun w => z (f4.mpr w))))
    | le => exact lv_if_le hC.1 hC.2.1 hd h2 (fun z => ky (f5.mp z)) (fun z => kn (Int.not_le.mp (fun w => z (f5.mpr w))))
  · cases hr
theorem bc_o_icmp (hC : bc_Cx g p s m args meth c k) {cd : ClassFile.Cond} {t : Int} {a b : Int} (hi : (bc_code k)[idx]? = some (.if_icmp cd t)) (hy : bc_yes cd a b → bc_At g ph p l e R s m args below meth c Z k nq mc ms n0 ad0 t.toNat np ls st h) (hn : bc_not cd a b → bc_At g ph p l e R s m args below meth c Z k nq mc ms n0 ad0 (idx + 1) np ls st h) : bc_At g ph p l e R s m args below meth c Z k nq mc ms n0 ad0 idx np ls (.inl b :: .inl a :: st) h := by
  intro cells slots H locs ad lsc pcb hF h0 hR hS hL hV hA hp
  obtain ⟨j, len, wi, hd, hr⟩ := bc_rw0 hC.2.2.2.2.2.2.2.2 hi hp
  unfold bc_rel at hr
  simp only [Bool.and_eq_true, decide_eq_true_eq] at hr
  obtain ⟨hnx, hr⟩ := hr
  split at hr
  · simp only [Bool.and_eq_true, decide_eq_true_eq] at hr
    obtain ⟨⟨rfl, hr⟩, rfl⟩ := hr
    obtain ⟨q, h1, h2⟩ := bc_to_in hr
    have vb : bc_i b := hV (.inl b) List.mem_cons_self
    have va : bc_i a := hV (.inl a) (List.mem_cons_of_mem _ List.mem_cons_self)
    have hV' : ∀ v ∈ st, bc_vo np v := fun v hv => hV v (List.mem_cons_of_mem _ (List.mem_cons_of_mem _ hv))
    have ky := fun z => hy z cells slots H locs ad lsc q hF h0 hR hS hL hV' hA h1
    have kn := fun z => hn z cells slots H locs ad lsc (pcb + 3) hF h0 hR hS hL hV' hA hnx
    have f1 := bc_eqi va vb
    have f2 := bc_lti va vb
    have f3 := bc_lei vb va
    have f4 := bc_lti vb va
    have f5 := bc_lei va vb
    cases cd with
    | eq => exact lv_icmp_eq hC.1 hC.2.1 hd h2 (fun z => ky (f1.mp z)) (fun z => kn (fun w => z (f1.mpr w)))
    | ne => exact lv_icmp_ne hC.1 hC.2.1 hd h2 (fun z => ky (fun w => z (f1.mpr w))) (fun z => kn (f1.mp z))
    | lt => exact lv_icmp_lt hC.1 hC.2.1 hd h2 (fun z => ky (f2.mp z)) (fun z => kn (Int.not_lt.mp (fun w => z (f2.mpr w))))
    | ge => exact lv_icmp_ge hC.1 hC.2.1 hd h2 (fun z => ky (f3.mp z)) (fun z => kn (Int.not_le.mp (fun w => z (f3.mpr w))))
    | gt => exact lv_icmp_gt hC.1 hC.2.1 hd h2 (fun z => ky (f4.mp z)) (fun z => kn (Int.not_lt.mp (fun w => z (f4.mpr w))))
    | le => exact lv_icmp_le hC.1 hC.2.1 hd h2 (fun z => ky (f5.mp z)) (fun z => kn (Int.not_le.mp (fun w => z (f5.mpr w))))
  · cases hr
theorem bc_o_switch (hC : bc_Cx g p s m args meth c k) {t : Int} {ps : Array (Int × Int)} {a : Int} (hi : (bc_code k)[idx]? = some (.lookupswitch t ps)) (hx : bc_sw (fun t => bc_At g ph p l e R s m args below meth c Z k nq mc ms n0 ad0 t np ls st h) a t.toNat ps.toList) : bc_At g ph p l e R s m args below meth c Z k nq mc ms n0 ad0 idx np ls (.inl a :: st) h := by
  intro cells slots H locs ad lsc pcb hF h0 hR hS hL hV hA hp
  obtain ⟨j, len, wi, hd, hr⟩ := bc_rw0 hC.2.2.2.2.2.2.2.2 hi hp
  have va : bc_i a := hV (.inl a) List.mem_cons_self
  have hV' : ∀ v ∈ st, bc_vo np v := fun v hv => hV v (List.mem_cons_of_mem _ hv)
  have hta := bc_ti va
  have kk : ∀ tg : Nat, bc_At g ph p l e R s m args below meth c Z k nq mc ms n0 ad0 tg np ls st h → ∀ q, bc_pc k tg = some q → W p l e R s m args below meth c H locs cells slots Z (F0 m q lsc (st.map (bc_cv g ad))) := fun tg hz q hq => hz cells slots H locs ad lsc q hF h0 hR hS hL hV' hA hq
  unfold bc_rel at hr
  dsimp only at hr
  split at hr
  · rename_i dd lo hi2 offs
    simp only [Bool.and_eq_true, decide_eq_true_eq] at hr
    obtain ⟨⟨⟨hdf, hhi⟩, hall⟩, hrng⟩ := hr
    have hsw := bc_sw_in _ hx
    by_cases hin : a < lo ∨ hi2 < a
    · have hnone : ps.toList.find? (fun q => q.1 == a) = none := by
        rw [List.find?_eq_none]
        intro q hq hqa
        have h1 := List.all_eq_true.mp hrng q hq
        simp only [decide_eq_true_eq] at h1
        have h2 : q.1 = a := by simpa using hqa
        omega
      rw [hnone] at hsw
      obtain ⟨q, h1, h2⟩ := bc_to_in hdf
      exact lv_tableOut hC.1 hC.2.1 hd (by rw [hta]; exact hin) h2 (kk _ hsw q h1)
    · have hlo : ¬ a < lo := fun z => hin (Or.inl z)
      have hhi' : ¬ hi2 < a := fun z => hin (Or.inr z)
      have hidx : (a - lo).toNat < offs.size := by omega
      have hat := List.all_eq_true.mp hall (a - lo).toNat (List.mem_range.mpr hidx)
      have hval : lo + ((a - lo).toNat : Int) = a := by omega
      rw [hval] at hat
      split at hat
      · rename_i off hoff
        split at hat
        · rename_i q hq
          rw [hq] at hsw
          obtain ⟨q2, h1, h2⟩ := bc_to_in hat
          exact lv_tableIn hC.1 hC.2.1 hd (by rw [hta]; exact hlo) (by rw [hta]; exact hhi') (by rw [hta]; exact hoff) h2 (kk _ hsw q2 h1)
        · rename_i hq
          rw [hq] at hsw
          obtain ⟨q2, h1, h2⟩ := bc_to_in hat
          exact lv_tableIn hC.1 hC.2.1 hd (by rw [hta]; exact hlo) (by rw [hta]; exact hhi') (by rw [hta]; exact hoff) h2 (kk _ hsw q2 h1)
      · cases hat
  · rename_i dd qs
    simp only [Bool.and_eq_true, decide_eq_true_eq] at hr
    obtain ⟨⟨⟨hdf, hso⟩, hsz⟩, hall⟩ := hr
    obtain ⟨tg, h1, h2⟩ := bc_lk_sw (J := fun t => bc_At g ph p l e R s m args below meth c Z k nq mc ms n0 ad0 t np ls st h) (x := a) hdf qs.toList ps.toList (by simpa using hsz) (fun n hn => by
      have hat := List.all_eq_true.mp hall n (List.mem_range.mpr (by simpa using hn))
      split at hat
      · rename_i x y hx1 hy1
        simp only [Bool.and_eq_true, decide_eq_true_eq] at hat
        exact ⟨x, y, by simpa using hx1, by simpa using hy1, hat.1, hat.2⟩
      · cases hat) hx
    obtain ⟨q2, h3, h4⟩ := bc_to_in h1
    exact lv_lookup hC.1 hC.2.1 hd hso (by rw [hta]) h4 (kk _ h2 q2 h3)
  · cases hr
/-- an end -/
theorem bc_o_rt {i : Instr} {v : Option bc_V} {Q : bc_Q} (hC : bc_Cx g p s m args meth c k) (hi : (bc_code k)[idx]? = some i) (hiv : i = bc_rd v) (hir : ∀ kk pc nx wi j len, bc_rel kk pc nx wi j len i = (decide (j = i) && decide (len = 1))) (hst : st = v.toList) (hQ : bc_Hr g ph p l e R s m args below meth c Z k nq mc ms n0 ad0 Q) (hx : bc_rt k nq np Q v h) : bc_At g ph p l e R s m args below meth c Z k nq mc ms n0 ad0 idx np ls st h := by
  intro cells slots H locs ad lsc pcb hF h0 hR hS hL hV hA hp
  obtain ⟨j, len, wi, hd, hr⟩ := bc_rw0 hC.2.2.2.2.2.2.2.2 hi hp
  rw [hir] at hr
  simp only [Bool.and_eq_true, decide_eq_true_eq] at hr
  obtain ⟨rfl, rfl⟩ := hr
  subst hst
  have he : np = nq ∧ bc_rv k v ∧ Q v h := by
    unfold bc_rt at hx
    unfold bc_rv
    split at hx
    · rename_i q1 q2
      rw [q2]
      exact ⟨Nat.eq_of_beq_eq_true q1, trivial, hx⟩
    · rename_i q1 q2
      rw [q2]
      exact ⟨Nat.eq_of_beq_eq_true q1, trivial, hx⟩
    · rename_i q1 q2
      rw [q2]
      exact ⟨Nat.eq_of_beq_eq_true q1, trivial, hx⟩
    · rename_i q1 q2
      rw [q2]
      exact ⟨Nat.eq_of_beq_eq_true q1, hx.1, hx.2⟩
    · exact hx.elim
  obtain ⟨rfl, h1, h2⟩ := he
  have hc1 : cells = mc := by omega
  have hc2 : slots = ms := by omega
  subst hc1
  subst hc2
  have e1 : v.toList.map (bc_cv g ad) = (v.map (bc_cv g ad)).toList := by cases v <;> rfl
  rw [e1]
  exact hQ v h H locs ad lsc pcb h2 (fun x hx => hV x (by rw [hx]; exact List.mem_cons_self)) h1 hR hS hA (hiv ▸ hd)
end BCJ
end
section
section BCS
variable {g : bc_GG} {ph : Bool} {p : Program} {l : Launch} {e : Env} {R : Room} {s : State} {m : MethodId} {args : Array Value} {below : List Frame} {meth : Method} {c : Code} {Z : State → Prop} {d k nq mc ms n0 : Nat} {ad0 : Nat → Nat} {idx np : Nat} {ls : bc_L} {st : bc_St} {h : bc_H}
theorem bc_plain (hC : bc_Cx g p s m args meth c k) (hRm : 8 ≤ R.frames ∧ 400 ≤ R.locals) (hcs : mc ≤ R.cells ∧ ms ≤ R.slots) {i : Instr} (hi : (bc_code k)[idx]? = some i) (hx : bc_wp (bc_s1 ph i ls st h) (fun ls st h => bc_At g ph p l e R s m args below meth c Z k nq mc ms n0 ad0 (idx + 1) np ls st h)) : bc_At g ph p l e R s m args below meth c Z k nq mc ms n0 ad0 idx np ls st h := by
  cases i with
  | iadd => exact bc_o_iadd hC hi hx
  | isub => exact bc_o_isub hC hi hx
  | imul => exact bc_o_imul hC hi hx
  | iand => exact bc_o_iand hC hi hx
  | ior => exact bc_o_ior hC hi hx
  | ixor => exact bc_o_ixor hC hi hx
  | ishl => exact bc_o_ishl hC hi hx
  | ishr => exact bc_o_ishr hC hi hx
  | iushr => exact bc_o_iushr hC hi hx
  | idiv => exact bc_o_idiv hC hi hx
  | irem => exact bc_o_irem hC hi hx
  | ladd => exact bc_o_ladd hC hi hx
  | lsub => exact bc_o_lsub hC hi hx
  | lmul => exact bc_o_lmul hC hi hx
  | land => exact bc_o_land hC hi hx
  | lor => exact bc_o_lor hC hi hx
  | ldiv => exact bc_o_ldiv hC hi hx
  | lrem => exact bc_o_lrem hC hi hx
  | lshl => exact bc_o_lshl hC hi hx
  | lshr => exact bc_o_lshr hC hi hx
  | lushr => exact bc_o_lushr hC hi hx
  | ineg => exact bc_o_ineg hC hi hx
  | i2l => exact bc_o_i2l hC hi hx
  | l2i => exact bc_o_l2i hC hi hx
  | i2b => exact bc_o_i2b hC hi hx
  | i2s => exact bc_o_i2s hC hi hx
  | lcmp => exact bc_o_lcmp hC hi hx
  | dup => exact bc_o_dup hC hi hx
  | dup2 => exact bc_o_dup2 hC hi hx
  | pop => exact bc_o_pop hC hi hx
  | arraylength => exact bc_o_arraylength hC hi hx
  | iaload => exact bc_o_iaload hC hi hx
  | laload => exact bc_o_laload hC hi hx
  | baload => exact bc_o_baload hC hi hx
  | aaload => exact bc_o_aaload hC hi hx
  | iastore => exact bc_o_iastore hC hi hx
  | lastore => exact bc_o_lastore hC hi hx
  | bastore => exact bc_o_bastore hC hi hx
  | aastore => exact bc_o_aastore hC hi hx
  | iconst n => exact bc_o_iconst hC hi hx
  | sipush n => exact bc_o_sipush hC hi hx
  | iload n => exact bc_o_iload hC hi hx
  | lload n => exact bc_o_lload hC hi hx
  | aload n => exact bc_o_aload hC hi hx
  | istore n => exact bc_o_istore hC hi hx
  | lstore n => exact bc_o_lstore hC hi hx
  | astore n => exact bc_o_astore hC hi hx
  | ldc n => exact bc_o_ldc hC hi hx
  | getfield n => exact bc_o_getfield hC hi hx
  | putfield n => exact bc_o_putfield hC hi hx
  | iinc n q => exact bc_o_iinc hC hi hx
  | ret n =>
    match n with
    | 0 => exact bc_o_ret0 hC hRm hi hx
    | 1 => exact bc_o_ret1 hC hRm hi hx
    | 2 => exact bc_o_ret2 hC hRm hi hx hcs
    | 3 => exact bc_o_ret3 hC hRm hi hx hcs
    | 4 => exact bc_o_ret4 hC hRm hi hx hcs
    | 5 => exact bc_o_ret5 hC hRm hi hx hcs
    | 6 => exact bc_o_ret6 hC hRm hi hx hcs
    | n + 7 =>
      simp only [bc_s1] at hx
      cases hcat : Nat.ble (bc_cat st) (bc_lim (n + 7)) with
      | false => rw [hcat] at hx; exact False.elim hx
      | true => rw [hcat] at hx; exact False.elim hx
  | _ => exact False.elim hx
end BCS
theorem bc_walk {g : bc_GG} {ph : Bool} (hall : ∀ n, (0 < n ∧ n < 362) → ¬ (357 < n ∧ n < 361) → bc_ckM n = true ∧ bc_cc n ∈ bc_T) {d k nq : Nat} {Q : bc_Q} {p : Program} {l : Launch} {e : Env} {R : Room} {s : State} {m : MethodId} {args : Array Value} {below : List Frame} {meth : Method} {c : Code} {Z : State → Prop} {mc ms n0 : Nat} {ad0 : Nat → Nat}
    (hC : bc_Cx g p s m args meth c k) (hRm : d + 8 ≤ R.frames ∧ 50 * d + 400 ≤ R.locals) (hcs : mc ≤ R.cells ∧ ms ≤ R.slots) (hr : bc_Hr g ph p l e R s m args below meth c Z k nq mc ms n0 ad0 Q) (tl : List Instr) (ie : Nat)
    (htl : ∀ np ls st h, bc_seg ph (bc_Snd g ph) d k nq Q tl np ls st h → bc_At g ph p l e R s m args below meth c Z k nq mc ms n0 ad0 ie np ls st h) :
    ∀ (is : List Instr) (idx np : Nat) (ls : bc_L) (st : bc_St) (h : bc_H), (∀ n i, is[n]? = some i → (bc_code k)[idx + n]? = some i) → ie = idx + is.length → bc_seg ph (bc_Snd g ph) d k nq Q (is ++ tl) np ls st h → bc_At g ph p l e R s m args below meth c Z k nq mc ms n0 ad0 idx np ls st h := by
  have J : ∀ t np ls st h, bc_Snd g ph d k t np ls st h nq Q → bc_At g ph p l e R s m args below meth c Z k nq mc ms n0 ad0 t np ls st h := fun t np ls st h q => q p l e R s m args below meth c Z mc ms n0 ad0 hC hRm hcs hr
  intro is
  induction is with
  | nil => intro idx np ls st h _ he hx; subst he; exact htl _ _ _ _ hx
  | cons i is ih =>
    intro idx np ls st h hcd he hx
    have hi : (bc_code k)[idx]? = some i := hcd 0 i rfl
    have hcd' : ∀ n i, is[n]? = some i → (bc_code k)[idx + 1 + n]? = some i := fun n i q => by
      have := hcd (n + 1) i q
      rwa [show idx + (n + 1) = idx + 1 + n by omega] at this
    have he' : ie = idx + 1 + is.length := by rw [he, List.length_cons]; omega
    have ih' := fun np ls st h q => ih (idx + 1) np ls st h hcd' he' q
    rw [List.cons_append] at hx
    unfold bc_seg at hx
    split at hx
    · exact bc_o_goto hC hi (J _ _ _ _ _ hx)
    · split at hx
      · exact bc_o_if hC hi (fun z => J _ _ _ _ _ (hx.1 z)) (fun z => ih' _ _ _ _ (hx.2 z))
      · exact hx.elim
    · split at hx
      · exact bc_o_icmp hC hi (fun z => J _ _ _ _ _ (hx.1 z)) (fun z => ih' _ _ _ _ (hx.2 z))
      · exact hx.elim
    · split at hx
      · exact bc_o_switch hC hi (bc_sw_mono (fun t q => J t _ _ _ _ q) _ hx)
      · exact hx.elim
    · split at hx
      · exact bc_o_rt hC hi rfl (fun _ _ _ _ _ _ => rfl) rfl hr hx
      · exact hx.elim
    · split at hx
      · exact bc_o_rt hC hi rfl (fun _ _ _ _ _ _ => rfl) rfl hr hx
      · exact hx.elim
    · split at hx
      · exact bc_o_rt hC hi rfl (fun _ _ _ _ _ _ => rfl) rfl hr hx
      · exact hx.elim
    · exact bc_o_static hall hC hRm hcs hi (bc_cal_mono (fun _ _ _ _ _ _ _ _ _ q => q) (fun n st h q => ih' n _ st h q) hx)
    · exact bc_o_virtual hall hC hRm hcs hi (bc_cal_mono (fun _ _ _ _ _ _ _ _ _ q => q) (fun n st h q => ih' n _ st h q) hx)
    · exact bc_o_special hall hC hRm hcs hi (bc_cal_mono (fun _ _ _ _ _ _ _ _ _ q => q) (fun n st h q => ih' n _ st h q) hx)
    · split at hx
      · rename_i hsh
        obtain ⟨⟨rfl, h2⟩, h3⟩ := hx
        exact bc_o_new hC hcs hi hsh h2 (ih' _ _ _ _ h3)
      · exact hx.elim
    · split at hx
      · rename_i hsh
        obtain ⟨⟨⟨h1, rfl⟩, h2⟩, h3⟩ := hx
        exact bc_o_newarray hC hcs hi hsh h2 h1 (ih' _ _ _ _ h3)
      · exact hx.elim
    · split at hx
      · rename_i hsh
        obtain ⟨⟨⟨h1, rfl⟩, h2⟩, h3⟩ := hx
        exact bc_o_anewarray hC hcs hi hsh h2 h1 (ih' _ _ _ _ h3)
      · exact hx.elim
    · exact bc_plain hC ⟨by omega, by omega⟩ hcs hi (bc_wp_mono (fun _ _ _ q => ih' _ _ _ _ q) hx)
theorem bc_step {g : bc_GG} {ph : Bool} (hall : ∀ n, (0 < n ∧ n < 362) → ¬ (357 < n ∧ n < 361) → bc_ckM n = true ∧ bc_cc n ∈ bc_T) {d k pc np : Nat} {ls : bc_L} {st : bc_St} {h : bc_H} {nq : Nat} {Q : bc_Q} (hx : bc_F ph (bc_Snd g ph) d k pc np ls st h nq Q) : bc_Snd g ph d k pc np ls st h nq Q := by
  intro p l e R s m args below meth c Z mc ms n0 ad0 hC hRm hcs hr
  refine bc_walk hall hC hRm hcs hr [] (pc + ((bc_code k).drop pc).length) (fun np ls st h q => q.elim) ((bc_code k).drop pc) pc np ls st h (fun n i q => ?_) rfl ?_
  · rw [List.getElem?_drop] at q
    exact q
  · rw [List.append_nil]
    exact hx
/-- what the small machine says is so of the JVM -/
theorem bc_sound {g : bc_GG} {ph : Bool} (hall : ∀ n, (0 < n ∧ n < 362) → ¬ (357 < n ∧ n < 361) → bc_ckM n = true ∧ bc_cc n ∈ bc_T) {d k pc np : Nat} {ls : bc_L} {st : bc_St} {h : bc_H} {nq : Nat} {Q : bc_Q} (hx : bc_OK ph d k pc np ls st h nq Q) : bc_Snd g ph d k pc np ls st h nq Q :=
  hx (bc_Snd g ph) (fun _ _ _ _ _ _ _ _ _ q => bc_step hall q)
end
section
/-! ===== runs that have no choice: the small machine as a program ===== -/
def bc_dyes (c : ClassFile.Cond) (a b : Int) : Decidable (bc_yes c a b) := match c with
  | .eq => (inferInstance : Decidable (a = b)) | .ne => (inferInstance : Decidable (a ≠ b)) | .lt => (inferInstance : Decidable (a < b)) | .ge => (inferInstance : Decidable (b ≤ a)) | .gt => (inferInstance : Decidable (b < a)) | .le => (inferInstance : Decidable (a ≤ b))
theorem bc_yn {c : ClassFile.Cond} {a b : Int} (h : bc_yes c a b) : ¬ bc_not c a b := by
  cases c <;> simp only [bc_yes, bc_not] at h ⊢ <;> omega
theorem bc_ny {c : ClassFile.Cond} {a b : Int} (h : ¬ bc_yes c a b) : bc_not c a b := by
  cases c <;> simp only [bc_yes, bc_not] at h ⊢ <;> omega
abbrev bc_Z : Type := Option (Option bc_V × Nat × bc_H)
def bc_xw (x : Option (bc_G × bc_L × bc_St × bc_H)) (K : bc_L → bc_St → bc_H → bc_Z) : bc_Z := match x with
  | some (none, ls, st, h) => K ls st h
  | some (some g, ls, st, h) => match g.2 with
    | .isTrue _ => K ls st h
    | .isFalse _ => none
  | none => none
def bc_xc (call : Nat → Nat → bc_L → bc_Z) (go : Nat → bc_St → bc_H → bc_Z) (vt : Bool) (d n : Nat) (st : bc_St) : bc_Z := match d, bc_take (bc_mt n).1 st [] with
  | d + 1, some (as, st) => match bc_cg vt n as st with
    | true => match call d n (bc_pad (bc_ent as) (bc_mt n).2.2.1) with
      | some (r, nr, h) => go nr (bc_psh r st) h
      | none => none
    | false => none
  | _, _ => none
def bc_xr (k np : Nat) (v : Option bc_V) (h : bc_H) : bc_Z := match (bc_mt k).2.1, v with
  | 0, none => some (none, np, h)
  | 1, some (.inl x) => some (some (.inl x), np, h)
  | 2, some (.inr (.inl x)) => some (some (.inr (.inl x)), np, h)
  | _, _ => none
def bc_x : Nat → Nat → Nat → List Instr → Nat → bc_L → bc_St → bc_H → bc_Z
  | 0, _, _, _, _, _, _, _ => none
  | f + 1, d, k, is, np, ls, st, h => match is with
    | [] => none
    | i :: is => match i with
      | .goto t => bc_x f d k ((bc_code k).drop t.toNat) np ls st h
      | .ifCond c t => match st with
        | .inl a :: st => match bc_dyes c a 0 with
          | .isTrue _ => bc_x f d k ((bc_code k).drop t.toNat) np ls st h
          | .isFalse _ => bc_x f d k is np ls st h
        | _ => none
      | .if_icmp c t => match st with
        | .inl b :: .inl a :: st => match bc_dyes c a b with
          | .isTrue _ => bc_x f d k ((bc_code k).drop t.toNat) np ls st h
          | .isFalse _ => bc_x f d k is np ls st h
        | _ => none
      | .lookupswitch _ _ => none
      | .ireturn => match st with
        | [.inl x] => bc_xr k np (some (.inl x)) h
        | _ => none
      | .lreturn => none
      | .return_ => match st with
        | [] => bc_xr k np none h
        | _ => none
      | .invokestatic n => bc_xc (fun d n ls => bc_x f d n (bc_code n) np ls [] h) (fun nr st h => bc_x f d k is nr ls st h) false d n st
      | .invokevirtual n => bc_xc (fun d n ls => bc_x f d n (bc_code n) np ls [] h) (fun nr st h => bc_x f d k is nr ls st h) true d n st
      | .invokespecial n => bc_xc (fun d n ls => bc_x f d n (bc_code n) np ls [] h) (fun nr st h => bc_x f d k is nr ls st h) true d n st
      | .new c => match bc_SH[np]? with
        | some (0, c2) => match Nat.beq c c2 with
          | true => bc_x f d k is (np + 1) ls (.inr (.inr ((0, c), (np : Int))) :: st) (bc_new h np (0, c))
          | false => none
        | _ => none
      | .newarray a => match st, bc_SH[np]? with
        | .inl n :: st, some (b, m) => match Nat.beq b (bc_ak a), (inferInstance : Decidable (n = (m : Int))) with
          | true, .isTrue _ => bc_x f d k is (np + 1) ls (.inr (.inr ((b, m), (np : Int))) :: st) (bc_new h np (b, m))
          | _, _ => none
        | _, _ => none
      | .anewarray c => match st, bc_SH[np]? with
        | .inl n :: st, some (b, m) => match Nat.beq b (c + 3), (inferInstance : Decidable (n = (m : Int))) with
          | true, .isTrue _ => bc_x f d k is (np + 1) ls (.inr (.inr ((b, m), (np : Int))) :: st) (bc_new h np (b, m))
          | _, _ => none
        | _, _ => none
      | i => bc_xw (bc_s1 false i ls st h) (fun ls st h => bc_x f d k is np ls st h)
def bc_E (v : Option bc_V) (h : bc_H) : bc_Q := fun v' h' => v' = v ∧ h' = h
theorem bc_xw_in {x : Option (bc_G × bc_L × bc_St × bc_H)} {K : bc_L → bc_St → bc_H → bc_Z} {r : Option bc_V × Nat × bc_H} (hx : bc_xw x K = some r) {C : bc_L → bc_St → bc_H → Prop} {m : Prop} (hm : ∀ ls st h, K ls st h = some r → m ∧ C ls st h) : m ∧ bc_wp x C := by
  unfold bc_xw at hx
  unfold bc_wp
  split at hx
  · exact hm _ _ _ hx
  · split at hx
    · rename_i hg _
      exact ⟨(hm _ _ _ hx).1, hg, (hm _ _ _ hx).2⟩
    · cases hx
  · cases hx
theorem bc_xr_in {k np nr : Nat} {v v' : Option bc_V} {h h' : bc_H} (hx : bc_xr k np v h = some (v', nr, h')) : np = nr ∧ bc_rt k nr np (bc_E v' h') v h := by
  unfold bc_xr at hx
  split at hx
  · rename_i q
    cases hx
    refine ⟨rfl, ?_⟩
    unfold bc_rt
    rw [q, show Nat.beq np np = true from Nat.beq_refl np]
    exact ⟨rfl, rfl⟩
  · rename_i q
    cases hx
    refine ⟨rfl, ?_⟩
    unfold bc_rt
    rw [q, show Nat.beq np np = true from Nat.beq_refl np]
    exact ⟨rfl, rfl⟩
  · rename_i q
    cases hx
    refine ⟨rfl, ?_⟩
    unfold bc_rt
    rw [q, show Nat.beq np np = true from Nat.beq_refl np]
    exact ⟨rfl, rfl⟩
  · cases hx
theorem bc_x_ok : ∀ (f d k : Nat) (is : List Instr) (np : Nat) (ls : bc_L) (st : bc_St) (h : bc_H) (v : Option bc_V) (nr : Nat) (h' : bc_H), bc_x f d k is np ls st h = some (v, nr, h') → np ≤ nr ∧ bc_seg false (bc_OK false) d k nr (bc_E v h') is np ls st h := by
  intro f
  induction f with
  | zero => intro d k is np ls st h v nr h' hx; cases hx
  | succ f ih =>
    intro d k is np ls st h v nr h' hx
    have hcall : ∀ (vt : Bool) (n : Nat) (is : List Instr), bc_xc (fun d n ls => bc_x f d n (bc_code n) np ls [] h) (fun nr st h => bc_x f d k is nr ls st h) vt d n st = some (v, nr, h') → np ≤ nr ∧ bc_cal (bc_OK false) vt d n nr np st h (fun n2 st h => bc_seg false (bc_OK false) d k nr (bc_E v h') is n2 ls st h) := by
      intro vt n is hx
      unfold bc_xc at hx
      unfold bc_cal
      cases d with
      | zero => cases hx
      | succ d =>
        cases htk : bc_take (bc_mt n).1 st [] with
        | none => rw [htk] at hx; cases hx
        | some q =>
          obtain ⟨as, st'⟩ := q
          rw [htk] at hx
          dsimp only at hx ⊢
          cases hcg : bc_cg vt n as st' with
          | false => rw [hcg] at hx; cases hx
          | true =>
            rw [hcg] at hx
            dsimp only at hx ⊢
            split at hx
            · rename_i r n1 h1 hc
              obtain ⟨a1, a2⟩ := ih _ _ _ _ _ _ _ _ _ _ hc
              obtain ⟨b1, b2⟩ := ih _ _ _ _ _ _ _ _ _ _ hx
              exact ⟨Nat.le_trans a1 b1, n1, bc_E r h1, ⟨a1, b1⟩, bc_ok (by unfold bc_F; rw [List.drop_zero]; exact a2), fun r' h2 q => by obtain ⟨rfl, rfl⟩ := q; exact b2⟩
            · cases hx
    cases is with
    | nil => cases hx
    | cons i is =>
      cases i with
      | goto t =>
        have hx : bc_x f d k ((bc_code k).drop t.toNat) np ls st h = some (v, nr, h') := hx
        obtain ⟨a1, a2⟩ := ih _ _ _ _ _ _ _ _ _ _ hx
        exact ⟨a1, bc_ok a2⟩
      | ifCond c t =>
        simp only [bc_x] at hx
        split at hx
        · split at hx
          · rename_i hy _
            obtain ⟨a1, a2⟩ := ih _ _ _ _ _ _ _ _ _ _ hx
            refine ⟨a1, ?_⟩
            exact And.intro (fun _ => bc_ok a2) (fun q => absurd q (bc_yn hy))
          · rename_i hy _
            obtain ⟨a1, a2⟩ := ih _ _ _ _ _ _ _ _ _ _ hx
            refine ⟨a1, ?_⟩
            exact And.intro (fun q => absurd q hy) (fun _ => a2)
        · cases hx
      | if_icmp c t =>
        simp only [bc_x] at hx
        split at hx
        · split at hx
          · rename_i hy _
            obtain ⟨a1, a2⟩ := ih _ _ _ _ _ _ _ _ _ _ hx
            refine ⟨a1, ?_⟩
            exact And.intro (fun _ => bc_ok a2) (fun q => absurd q (bc_yn hy))
          · rename_i hy _
            obtain ⟨a1, a2⟩ := ih _ _ _ _ _ _ _ _ _ _ hx
            refine ⟨a1, ?_⟩
            exact And.intro (fun q => absurd q hy) (fun _ => a2)
        · cases hx
      | lookupswitch t ps => cases hx
      | ireturn =>
        simp only [bc_x] at hx
        split at hx
        · obtain ⟨rfl, a2⟩ := bc_xr_in hx
          exact ⟨Nat.le_refl _, a2⟩
        · cases hx
      | lreturn => cases hx
      | return_ =>
        simp only [bc_x] at hx
        split at hx
        · obtain ⟨rfl, a2⟩ := bc_xr_in hx
          exact ⟨Nat.le_refl _, a2⟩
        · cases hx
      | invokestatic n => exact hcall false n is hx
      | invokevirtual n => exact hcall true n is hx
      | invokespecial n => exact hcall true n is hx
      | new c =>
        simp only [bc_x] at hx
        split at hx
        · rename_i hsh
          split at hx
          · rename_i hc
            obtain ⟨a1, a2⟩ := ih _ _ _ _ _ _ _ _ _ _ hx
            have hc := Nat.eq_of_beq_eq_true hc
            simp only [bc_seg, hsh]
            exact ⟨by omega, ⟨hc, a1⟩, a2⟩
          · cases hx
        · cases hx
      | newarray a =>
        simp only [bc_x] at hx
        split at hx
        · rename_i hsh
          split at hx
          · rename_i hn hc _
            obtain ⟨a1, a2⟩ := ih _ _ _ _ _ _ _ _ _ _ hx
            have hc := Nat.eq_of_beq_eq_true hc
            simp only [bc_seg, hsh]
            exact ⟨by omega, ⟨⟨hc, hn⟩, a1⟩, a2⟩
          · cases hx
        · cases hx
      | anewarray c =>
        simp only [bc_x] at hx
        split at hx
        · rename_i hsh
          split at hx
          · rename_i hn hc _
            obtain ⟨a1, a2⟩ := ih _ _ _ _ _ _ _ _ _ _ hx
            have hc := Nat.eq_of_beq_eq_true hc
            simp only [bc_seg, hsh]
            exact ⟨by omega, ⟨⟨hc, hn⟩, a1⟩, a2⟩
          · cases hx
        · cases hx
      | iconst n =>
        have hx : bc_x f d k is np ls (.inl n :: st) h = some (v, nr, h') := hx
        have q := ih _ _ _ _ _ _ _ _ _ _ hx
        exact q
      | ldc n =>
        have hx : bc_x f d k is np ls (.inr (.inr ((8, n), -10)) :: st) h = some (v, nr, h') := hx
        have q := ih _ _ _ _ _ _ _ _ _ _ hx
        exact q
      | sipush n =>
        have hx : bc_x f d k is np ls (.inr (.inl n) :: st) h = some (v, nr, h') := hx
        have q := ih _ _ _ _ _ _ _ _ _ _ hx
        exact q
      | _ => first | exact bc_xw_in hx (fun ls st h q => ih _ _ _ _ _ _ _ _ _ _ q) | cases hx
/-- a whole method, run -/
theorem bc_x_run {f d k np nr : Nat} {ls : bc_L} {h h' : bc_H} {v : Option bc_V} (hx : bc_x f d k (bc_code k) np ls [] h = some (v, nr, h')) : np ≤ nr ∧ bc_OK false d k 0 np ls [] h nr (bc_E v h') := by
  obtain ⟨a1, a2⟩ := bc_x_ok _ _ _ _ _ _ _ _ _ _ _ hx
  exact ⟨a1, bc_ok (by unfold bc_F; rw [List.drop_zero]; exact a2)⟩
end
section
/-! the constructors, run -/
def bc_h0 : bc_H := bc_new (fun _ _ => 0) 0 (0, 11)
noncomputable def bc_r1 : bc_Z := bc_x 20000 99 119 (bc_code 119) 1 (bc_pad (bc_ent [.inr (.inr ((0, 11), 0))]) (bc_mt 119).2.2.1) [] bc_h0
def bc_z1 (r : bc_Z) : Bool := match r with
  | some (none, 156, _) => true
  | _ => false
theorem bc_run1 : bc_z1 bc_r1 = true := by decide +kernel
noncomputable def bc_hC1 : bc_H := match bc_r1 with
  | some (_, _, h) => h
  | none => bc_h0
noncomputable def bc_hC2 : bc_H := bc_new bc_hC1 156 (0, 12)
noncomputable def bc_r2 : bc_Z := bc_x 20000 99 194 (bc_code 194) 157 (bc_pad (bc_ent [.inr (.inr ((0, 12), 156))]) (bc_mt 194).2.2.1) [] bc_hC2
def bc_z2 (r : bc_Z) : Bool := match r with
  | some (none, 185, _) => true
  | _ => false
noncomputable def bc_hB : bc_H := match bc_r2 with
  | some (_, _, h) => h
  | none => bc_h0
def bc_finB (h : bc_H) : Bool := (List.range 185).all fun i => match bc_sh i with
  | (0, c) => (List.range (bc_nf c)).all fun j => match bc_fo c j with
    | some o => decide (h (i : Int) (j : Int) = (i : Int) + o) && decide (0 ≤ h (i : Int) (j : Int))
    | none => true
  | _ => true
theorem bc_run2 : (bc_z2 bc_r2 && bc_finB bc_hB) = true := by decide +kernel
end
section
/-! the law's start: what lies outside the world -/
def bc_tm (i : Nat) : Term := match i with
  | 0 => .string "BeastCave$Text" 29
  | _ => .string "BeastCaveModel" 211
def bc_pre0 : Jvm.Cond := Jvm.Cond.and given_1 narrow_1
def bc_el (i j : Nat) : Jvm.Cond := .eq (.elem (.field (bc_tm i) "java/lang/String" "value" "[B") (.int (Int32.ofNat j))) (.int ((bc_bytS.getD i []).getD j 0))
theorem bc_hel0 : ((flatC bc_pre0).drop 39).take 145 = (List.range 145).map (bc_el 0) := by decide +kernel
theorem bc_hel1 : ((flatC bc_pre0).drop 188).take 146 = (List.range 146).map (bc_el 1) := by decide +kernel
theorem bc_lens2 : bc_lenS = [145, 146] := by decide +kernel
theorem bc_helI {i j : Nat} (hi : i < 2) (hj : j < bc_lenS.getD i 0) : bc_el i j ∈ flatC bc_pre0 := by
  rw [bc_lens2] at hj
  have hc : i = 0 ∨ i = 1 := by omega
  rcases hc with rfl | rfl
  · exact List.mem_of_mem_drop (List.mem_of_mem_take (show bc_el 0 j ∈ ((flatC bc_pre0).drop 39).take 145 by rw [bc_hel0]; exact List.mem_map.mpr ⟨j, List.mem_range.mpr hj, rfl⟩))
  · exact List.mem_of_mem_drop (List.mem_of_mem_take (show bc_el 1 j ∈ ((flatC bc_pre0).drop 188).take 146 by rw [bc_hel1]; exact List.mem_map.mpr ⟨j, List.mem_range.mpr hj, rfl⟩))
theorem bc_fl (i : Nat) {w : Jvm.Cond} (h : (flatC bc_pre0)[i]? = some w) : w ∈ flatC bc_pre0 := List.mem_of_getElem? h
theorem bc_f4 : Cond.eq (.static "java/lang/String" "COMPACT_STRINGS" "Z") (.int 1) ∈ flatC bc_pre0 := bc_fl 4 (by decide +kernel)
theorem bc_f5 : Cond.isRef (.static "jdk/internal/util/Preconditions" "SIOOBE_FORMATTER" "Ljava/util/function/BiFunction;") ∈ flatC bc_pre0 := bc_fl 5 (by decide +kernel)
theorem bc_f35 : ∀ i, i < 2 → Cond.exactly (bc_tm i) "java/lang/String" ∈ flatC bc_pre0
  | 0, _ => bc_fl 35 (by decide +kernel)
  | 1, _ => bc_fl 184 (by decide +kernel)
  | n + 2, h => absurd h (by omega)
theorem bc_f36 : ∀ i, i < 2 → Cond.eq (.field (bc_tm i) "java/lang/String" "coder" "B") (.int 0) ∈ flatC bc_pre0
  | 0, _ => bc_fl 36 (by decide +kernel)
  | 1, _ => bc_fl 185 (by decide +kernel)
  | n + 2, h => absurd h (by omega)
theorem bc_f37 : ∀ i, i < 2 → Cond.arrayOf (.field (bc_tm i) "java/lang/String" "value" "[B") .byte ∈ flatC bc_pre0
  | 0, _ => bc_fl 37 (by decide +kernel)
  | 1, _ => bc_fl 186 (by decide +kernel)
  | n + 2, h => absurd h (by omega)
theorem bc_f38 : ∀ i, i < 2 → Cond.eq (.length (.field (bc_tm i) "java/lang/String" "value" "[B")) (.int (Int32.ofNat (bc_lenS.getD i 0))) ∈ flatC bc_pre0
  | 0, _ => bc_fl 38 (by decide +kernel)
  | 1, _ => bc_fl 187 (by decide +kernel)
  | n + 2, h => absurd h (by omega)
theorem bc_f334 : Cond.not (Cond.eq (bc_tm 0) (bc_tm 1)) ∈ flatC bc_pre0 := bc_fl 334 (by decide +kernel)
theorem bc_lks : ∀ (qs : List Nat) (ws : List Jvm.Cond), qs.map bc_lk = ws.map some → ∀ w ∈ ws, w ∈ lw_tbl
  | [], [], _, w, hw => absurd hw List.not_mem_nil
  | [], _ :: _, h, _, _ => by cases h
  | _ :: _, [], h, _, _ => by cases h
  | q :: qs, v :: ws, h, w, hw => by
    rw [List.map_cons, List.map_cons] at h
    injection h with h1 h2
    rcases List.mem_cons.mp hw with rfl | hw
    · exact bc_lk_in h1
    · exact bc_lks qs ws h2 w hw
def bc_nws : List Jvm.Cond := bc_nest.map (fun q => .methodLinkNest q.1 q.2.1 q.2.2 "BeastCave")
theorem bc_nsin : ∀ w ∈ bc_nws, w ∈ lw_tbl := bc_lks [33, 195, 238, 1017, 1060, 1236, 5023, 1066, 1084, 1126, 3139, 4181, 5121, 4154, 2114] _ (by decide +kernel)
def bc_iws : List Jvm.Cond := (List.range 13).map (fun c => .instantiable (vwCl.getD c ("", TX0, 0)).1 (vwCl.getD c ("", TX0, 0)).2.2)
theorem bc_insin : ∀ w ∈ bc_iws, w ∈ lw_tbl := bc_lks [237, 1065, 1059, 1235, 1125, 194, 160, 1016, 50, 32, 1083, 24, 5163] _ (by decide +kernel)
def bc_sws : List Jvm.Cond := [.stringRef "BeastCave$Text" 29 bc_tx0, .stringRef "BeastCaveModel" 211 bc_tx1, .laysStatic "java/lang/String" "COMPACT_STRINGS" "Z", .laysStatic "jdk/internal/util/Preconditions" "SIOOBE_FORMATTER" "Ljava/util/function/BiFunction;", .initialized "java/lang/String", .initialized "jdk/internal/util/Preconditions", .arrayOver (.object RX2), .arrayOver (.object RX3), .arrayClass .int, .arrayClass .byte, .arrayClass .long, .arrayClass .boolean]
theorem bc_ssin : ∀ w ∈ bc_sws, w ∈ lw_tbl := bc_lks [55, 6171, 65, 81, 4, 6, 2035, 2036, 47, 158, 48, 6083] _ (by decide +kernel)
theorem bc_swi (i : Nat) {w : Jvm.Cond} (h : bc_sws[i]? = some w) : w ∈ lw_tbl := bc_ssin w (List.mem_of_getElem? h)
theorem bc_arC {args : Array Value} {s : State} {ty : FieldType} (hn : ∀ C, ty ≠ .object C) (h : (Cond.arrayClass ty).before args s = true) : ∃ cA, ArrOfT s cA ty ∧ va_RA s cA ty := by
  obtain ⟨c, k, comp, h1, h2, h3⟩ := Cond.arrayClass_spec (args := args) (first := s) (o := none) (idx := []) (s := s) h
  refine ⟨c, fun n z => ⟨fun k h => (by cases h), k, h2, comp, h3⟩, ?_⟩
  cases ty with
  | object C => exact absurd rfl (hn C)
  | _ => exact h1
theorem bc_arO {args : Array Value} {s : State} {C : String} (h : (Cond.arrayOver (.object C)).before args s = true) : ∃ cA, ArrOfT s cA (.object C) ∧ va_RA s cA (.object C) := by
  obtain ⟨comp, c, k, h1, h2, h3, h4, h5⟩ := Cond.arrayOver_spec (args := args) (first := s) (o := none) (idx := []) (s := s) h
  exact ⟨c, fun n z => ⟨fun k h => (by cases h), k, h3, comp, h4⟩, k, comp, h3, h4, h1, h5⟩
/-- what is fixed, found at the start -/
theorem bc_given {s : State} {b L : Nat} {xs : Nat → Int32} (hL : L ≤ 3072) (hts : ∀ w ∈ lw_tbl, w.before #[Value.ref b] s = true) (hX : va_X b L xs s s.heap) (hbl : b < s.heap.size) (hgv : bc_pre0.before #[Value.ref b] s = true) :
    ∃ g : bc_GG, g.1 = (s.heap.size, b, L) ∧ g.2.1 = xs ∧ va_K (bc_D g) vwCl (bc_ty g) s ∧ bc_X g s s.heap := by
  have hf := flat_of_before _ hgv
  obtain ⟨aK, aV, hS, hev⟩ := vk_Sof (args := #[Value.ref b]) (s := s) (N := 2) (tm := bc_tm) (len := bc_lenS) (byt := bc_bytS) (A := fun q => s.heap.size ≤ q) (fun i hi => by
      have h1 := (bc_strs i hi).2.1
      have h2 := (bc_strs i hi).2.2.1
      omega) (fun i hi => hf _ (bc_f35 i hi)) (fun i hi => hf _ (bc_f36 i hi)) (fun i hi => hf _ (bc_f37 i hi)) (fun i hi => hf _ (bc_f38 i hi)) (fun i hi j hj => hf _ (bc_helI hi hj)) (fun i j hi hj hij => by
      have hc : (i = 0 ∧ j = 1) ∨ (i = 1 ∧ j = 0) := by omega
      rcases hc with ⟨rfl, rfl⟩ | ⟨rfl, rfl⟩
      · exact Or.inl (hf _ bc_f334)
      · exact Or.inr (hf _ bc_f334)) (fun a ha q => by omega)
  have hcls : ∀ c : Nat, ∃ q : ClassId × (Nat → Nat), ∀ q' : vw_C, vwCl[c]? = some q' → u_Kn s q'.1 q'.2.1 q'.2.2 q.1 q.2 := by
    intro c
    by_cases hc : c < 13
    · obtain ⟨C, T, N, ty, c1, c2, c3, -, -, -, -, c8, c9⟩ := bc_cls c hc
      have hw : Cond.instantiable C N ∈ lw_tbl := by
        have := bc_insin (.instantiable (vwCl.getD c ("", TX0, 0)).1 (vwCl.getD c ("", TX0, 0)).2.2) (List.mem_map.mpr ⟨c, List.mem_range.mpr hc, rfl⟩)
        rw [c8, c9] at this
        exact this
      obtain ⟨cC, iS, hk⟩ := u_known (ws := bc_T) (fun w h => hts w (List.mem_filter.mp h).1) c3 (hts _ hw)
      refine ⟨(cC, iS), fun q' hq => ?_⟩
      rw [c1] at hq
      cases hq
      exact hk
    · refine ⟨(0, fun _ => 0), fun q' hq => ?_⟩
      have := (List.getElem?_eq_some_iff.mp hq).1
      exact absurd this hc
  obtain ⟨D, hD⟩ := Classical.axiomOfChoice hcls
  obtain ⟨a0, z0, y0⟩ := bc_arC (ty := .int) (fun C h => by cases h) (hts _ (bc_swi 8 rfl))
  obtain ⟨a1, z1, y1⟩ := bc_arC (ty := .byte) (fun C h => by cases h) (hts _ (bc_swi 9 rfl))
  obtain ⟨a2, z2, y2⟩ := bc_arC (ty := .long) (fun C h => by cases h) (hts _ (bc_swi 10 rfl))
  obtain ⟨a3, z3, y3⟩ := bc_arC (ty := .boolean) (fun C h => by cases h) (hts _ (bc_swi 11 rfl))
  obtain ⟨a4, z4, y4⟩ := bc_arO (C := RX2) (hts _ (bc_swi 6 rfl))
  obtain ⟨a5, z5, y5⟩ := bc_arO (C := RX3) (hts _ (bc_swi 7 rfl))
  refine ⟨((s.heap.size, b, L), xs, aK, aV, (fun k => [a0, a1, a2, a3, a4, a5].getD k 0), (fun c => (D c).1), (fun c => (D c).2)), rfl, rfl, ⟨fun c q hq => hD c q hq, fun k q hq => ?_⟩, hX, hbl, Nat.le_refl _, hL, hS, ?_, ?_, ?_, ?_, ?_, ?_, ?_⟩
  · have hk : k < 6 := (List.getElem?_eq_some_iff.mp hq).1
    have hc : k = 0 ∨ k = 1 ∨ k = 2 ∨ k = 3 ∨ k = 4 ∨ k = 5 := by omega
    rcases hc with rfl | rfl | rfl | rfl | rfl | rfl <;> cases hq
    · exact ⟨z0, y0⟩
    · exact ⟨z1, y1⟩
    · exact ⟨z2, y2⟩
    · exact ⟨z3, y3⟩
    · exact ⟨z4, y4⟩
    · exact ⟨z5, y5⟩
  · exact vk_R.of (hts _ (bc_swi 0 rfl)) (hev 0 (by decide))
  · exact vk_R.of (hts _ (bc_swi 1 rfl)) (hev 1 (by decide))
  · exact va_Zof (hts _ (bc_swi 2 rfl)) (hts _ (bc_swi 4 rfl)) (va_eqi (hf _ bc_f4)) (fun a ha q => by have q : s.heap.size ≤ a := q; omega)
  · exact va_Zqof (hts _ (bc_swi 3 rfl)) (hts _ (bc_swi 5 rfl)) (hf _ bc_f5) (fun a ha q => by have q : s.heap.size ≤ a := q; omega)
  · exact fun q hq => va_Nw.of rfl (hts _ (bc_nsin _ (List.mem_map.mpr ⟨q, hq, rfl⟩)))
  · exact va_AO.of (hts _ (bc_swi 6 rfl))
  · exact va_AO.of (hts _ (bc_swi 7 rfl))
end
section
/-! the law's frame, from its entry to its loop, and from its loop to the end -/
theorem bc_r1_eq : bc_r1 = some (none, 156, bc_hC1) := by
  have h := bc_run1
  unfold bc_hC1
  unfold bc_z1 at h
  split at h
  · rename_i q; rw [q]
  · cases h
theorem bc_r2_eq : bc_r2 = some (none, 185, bc_hB) := by
  have h := (Bool.and_eq_true_iff.mp bc_run2).1
  unfold bc_hB
  unfold bc_z2 at h
  split at h
  · rename_i q; rw [q]
  · cases h
theorem bc_finB_in {h : bc_H} (hb : bc_finB h = true) : bc_fin h 185 := by
  intro i hi c hc j hj o ho
  have h1 := List.all_eq_true.mp hb i (List.mem_range.mpr hi)
  rw [hc] at h1
  have h2 := List.all_eq_true.mp h1 j (List.mem_range.mpr hj)
  rw [ho] at h2
  simpa using h2
theorem bc_fin_of {h h' : bc_H} {np : Nat} (hh : ∀ a b : Int, 0 ≤ a → h' a b = h a b) (hf : bc_fin h np) : bc_fin h' np := fun i hi c hc j hj o ho => by
  rw [hh i j (by omega)]
  exact hf i hi c hc j hj o ho
/-- the memory with the script beside it -/
def bc_mrg (h : bc_H) (L : Nat) (xs : Nat → Int32) : bc_H := fun a b => if a = -2 then (xs b.toNat).toInt else if a = -3 then (L : Int) else h a b
theorem bc_mrg_at {h : bc_H} {L : Nat} {xs : Nat → Int32} {a : Int} (ha : 0 ≤ a) : bc_mrg h L xs a = h a := by
  funext b
  unfold bc_mrg
  rw [if_neg (by omega), if_neg (by omega)]
def bc_Init (h : bc_H) (L : Nat) : Prop := (∀ a b : Int, 0 ≤ a → h a b = bc_hB a b) ∧ h (-3) 0 = (L : Int) ∧ L ≤ 3072 ∧ ∀ j : Int, 0 ≤ j → bc_i (h (-2) j)
def bc_lsL (i : Int) : bc_L := [some (.inr (.inr ((7, 0), -1))), some (.inr (.inr ((0, 11), 0))), some (.inr (.inr ((0, 12), 156))), some (.inl i)]
theorem bc_vo_8 {np : Nat} : bc_vo np (.inr (.inr ((7, 0), -1))) := Or.inl rfl
def bc_lw : List Instr := [.new 11, .dup, .invokespecial 119, .astore 1, .new 12, .dup, .invokespecial 194, .astore 2, .iconst 0, .istore 3]
theorem bc_lw_ok : ∀ n i, bc_lw[n]? = some i → (bc_code 0)[0 + n]? = some i := by
  intro n i h
  have h0 : ((List.range 10).all (fun n => decide ((bc_code 0)[n]? = bc_lw[n]?))) = true := by decide +kernel
  have hn : n < 10 := (List.getElem?_eq_some_iff.mp h).1
  have := List.all_eq_true.mp h0 n (List.mem_range.mpr hn)
  rw [decide_eq_true_eq] at this
  rw [Nat.zero_add, this]
  exact h
/-- the first rows of the law, as the small machine runs them -/
theorem bc_lw_run {P : bc_P} {Q : bc_Q} {h0 h1 h2 : bc_H} (a1 : P 99 119 0 1 (bc_pad (bc_ent [.inr (.inr ((0, 11), 0))]) (bc_mt 119).2.2.1) [] (bc_new h0 0 (0, 11)) 156 (bc_E none h1)) (a2 : P 99 194 0 157 (bc_pad (bc_ent [.inr (.inr ((0, 12), 156))]) (bc_mt 194).2.2.1) [] (bc_new h1 156 (0, 12)) 185 (bc_E none h2)) (hx : P 100 0 10 185 (bc_lsL 0) [] h2 185 Q) : bc_seg false P 100 0 185 Q (bc_lw ++ [.goto ((10 : Nat) : Int)]) 0 (bc_pad (bc_ent [.inr (.inr ((7, 0), -1))]) 4) [] h0 := by
  refine And.intro ⟨rfl, by decide⟩ ?_
  refine Exists.intro 156 (Exists.intro (bc_E none h1) (And.intro ⟨by decide, by decide⟩ (And.intro a1 ?_)))
  intro r h' q
  have q1 := q.1
  have q2 := q.2
  subst q1
  subst q2
  refine And.intro ⟨rfl, by decide⟩ ?_
  refine Exists.intro 185 (Exists.intro (bc_E none h2) (And.intro ⟨by decide, by decide⟩ (And.intro a2 ?_)))
  intro r h' q
  have q1 := q.1
  have q2 := q.2
  subst q1
  subst q2
  exact hx
end
section
/-! THE CLAIM OUT OF ONE WALK OF THE LAW'S BODY. Your part is whole_start (and what it stands on); all else here is the same for every law, but numbers. -/
def R_law : String := "BeastCaveLaw"
def lw_P (b : Addr) (xs : List Int32) (args : Array Value) (s : State) : Prop := args = #[.ref b] ∧ s.IntsAt b xs ∧ xs.length ≤ 3072 ∧ (Jvm.Cond.and given_1 narrow_1).before args s = true
def lw_Q (_ : Array Value) (s : State) (o : Outcome) (t : State) : Prop := o = .returned (some (.int 1)) ∧ Framed s o t [] 600000 7302250
def lw_Z (below : List Frame) (a : Array Value) (s : State) : State → Prop := fun t => ∃ o, t.status = .running ∧ Ended t below o ∧ lw_Q a s o t
/-- the law's own end, with 1 on the stack, nothing written that was there before, its room as the claim has it -/
theorem lw_ret {p : Program} {l : Launch} {e : Env} {s : State} {m : MethodId} {below : List Frame} {meth : Method} {c : Code} {b : Nat} (hx : p.tables.exec = Jvm.exec) (hb : c.code = code) (hr : meth.sig.returnType = ret) (hlocks : meth.locks = false) {pc : Nat} {H : Heap} {ls : Array Slot} (hdg : decode code pc = .ok (.ireturn, 1)) : W p l e room_1 s m #[Value.ref b] below meth c H [] 600000 7302250 (lw_Z below #[Value.ref b] s) (F0 m pc ls [.int 1]) := by
  intro T hT X
  obtain ⟨fs, hret, hrun, hended, hW, hframe⟩ := X.leave (v := some (.int 1)) (hlocks := hlocks) (fun h => by rw [hr] at h; cases h)
  have hmeth' : T.vm.method? m = some meth := X.method'
  refine ⟨T.setFrames fs, ?_, .returned (some (.int 1)), hrun, hended, rfl, ⟨_, rfl⟩, hW, hframe⟩
  jvm_step X.here [X.here.top, hx, hb, hdg, hmeth', hr, ret, narrow_b1]
  (try refine ⟨rfl, ?_⟩); (try refine ⟨rfl, ?_⟩)
  first | (intro acts; rw [hret _ acts rfl rfl rfl]) | rw [hret _ _ rfl rfl rfl]
  exact Steps.refl _
/-- what holds at the law's entry: the machine, the code, the tables' words (any of lw_tbl by 'hts w (by decide +kernel)'), the script of L ints xs at the cell b, what the Statement gives of the start (any of its parts by flat_of_before) -/
def lw_At (p : Program) (s : State) (m : MethodId) (meth : Method) (c : Code) (b L : Nat) (xs : Nat → Int32) : Prop :=
  p.tables.exec = Jvm.exec ∧ c.code = code ∧ meth.sig.returnType = ret ∧ c.maxLocals = 4 ∧ s.vm.findClass R_law = some m.cls ∧ (∀ w ∈ lw_tbl, w.before #[Value.ref b] s = true) ∧ va_X b L xs s s.heap ∧ b < s.heap.size ∧ meth.locks = false ∧ (Jvm.Cond.and given_1 narrow_1).before #[Value.ref b] s = true
theorem bc_ws_eq {g : bc_GG} {ad : Nat → Nat} {h h' : bc_H} {np : Nat} (hh : ∀ a : Int, 0 ≤ a → h' a = h a) : bc_ws g ad h' np = bc_ws g ad h np := by
  unfold bc_ws
  exact List.map_congr_left (fun i _ => by rw [hh i (Int.natCast_nonneg i)])
/-- from the constructors' memory to the main phase's -/
theorem bc_phase {g : bc_GG} {d k pc : Nat} {ls : bc_L} {st : bc_St} {h : bc_H} {nq : Nat} {Q : bc_Q} {np : Nat} (hf : bc_fin h np) (hx : bc_Snd g true d k pc np ls st (bc_mrg h (bc_len g) (bc_xs g)) nq Q) : bc_Snd g false d k pc np ls st h nq Q := by
  intro p l e R s m args below meth c Z mc ms n0 ad0 hC hRm hcs hr cells slots H locs ad lsc pcb hF h0 hR hS hL hV hA hp
  refine hx p l e R s m args below meth c Z mc ms n0 ad0 hC hRm hcs (fun v h' H locs ad lsc pcb a1 a2 a3 a4 a5 a6 a7 => hr v h' H locs ad lsc pcb a1 a2 a3 ⟨a4.1, a4.2.1, a4.2.2.1, fun z => (by cases z), fun z => (by cases z), fun z => (by cases z)⟩ a5 a6 a7) cells slots H locs ad lsc pcb hF h0 ?_ hS hL hV hA hp
  have e := bc_ws_eq (g := g) (ad := ad) (np := np) (h := h) (h' := bc_mrg h (bc_len g) (bc_xs g)) (fun a ha => bc_mrg_at ha)
  refine ⟨by rw [e]; exact hR.1, by rw [e]; exact hR.2.1, fun i hi => ?_, fun _ => bc_fin_of (fun a b ha => congrFun (bc_mrg_at ha) b) hf, fun _ j hj => ?_, fun _ => ?_⟩
  · rw [bc_mrg_at (Int.natCast_nonneg i)]
    exact hR.2.2.1 i hi
  · unfold bc_mrg
    rw [if_pos rfl, Int.toNat_natCast]
  · unfold bc_mrg
    rw [if_neg (by decide), if_pos rfl]
theorem bc_SZ_all : bc_SZ 185 ≤ 7302250 := by decide +kernel
/-- from the entry to the end, if the law's loop is sound in the small machine -/
theorem bc_start (hall : ∀ n, (0 < n ∧ n < 362) → ¬ (357 < n ∧ n < 361) → bc_ckM n = true ∧ bc_cc n ∈ bc_T) (hk0 : bc_ckM 0 = true) (hmain : ∀ (h : bc_H) (L : Nat), bc_Init h L → bc_OK true 100 0 10 185 (bc_lsL 0) [] h 185 (fun v _ => v = some (.inl 1)))
    {p : Program} {e : Env} {s : State} {m : MethodId} {below : List Frame} {meth : Method} {c : Code} (l : Launch) {b L : Nat} {xs : Nat → Int32} (hL : L ≤ 3072) (C0 : lw_At p s m meth c b L xs) : W p l e room_1 s m #[Value.ref b] below meth c s.heap [] 0 0 (lw_Z below #[Value.ref b] s) (entryFrame m ([Value.ref b] : List Value).toArray 4) := by
  obtain ⟨hx, hb, hr, hml, hown, hts, hX, hbl, hlocks, hgv⟩ := C0
  obtain ⟨g, g1, g2, hK, hXg⟩ := bc_given hL hts hX hbl hgv
  have e0 : bc_q0 g = s.heap.size := by unfold bc_q0; rw [g1]
  have e1 : bc_b g = b := by unfold bc_b; rw [g1]
  have e2 : bc_len g = L := by unfold bc_len; rw [g1]
  have hC : bc_Cx g p s m #[Value.ref b] meth c 0 := ⟨hx, hb, hml, hown, fun w h => hts w (List.mem_filter.mp h).1, fun q => absurd q (by decide), hK, hXg, hk0⟩
  have hHr : bc_Hr g false p l e room_1 s m #[Value.ref b] below meth c (lw_Z below #[Value.ref b] s) 0 185 185 (bc_SZ 185) 0 (fun _ => 0) (fun v _ => v = some (.inl 1)) := by
    intro v h' H locs ad lsc pcb hv _ _ _ hS _ hd
    subst hv
    refine va_forget (fun q hq => by have h1 : bc_q0 g ≤ q.base := hS.2.2 q hq; omega) ?_
    refine W.widen (k := 600000) (n := 7302250) (Nat.le_of_ble_eq_true rfl) bc_SZ_all ?_
    exact lw_ret hx hb hr hlocks hd
  have ha1 : bc_Snd g false 99 119 0 1 (bc_pad (bc_ent [.inr (.inr ((0, 11), 0))]) (bc_mt 119).2.2.1) [] bc_h0 156 (bc_E none bc_hC1) := bc_sound hall (bc_x_run bc_r1_eq).2
  have ha2 : bc_Snd g false 99 194 0 157 (bc_pad (bc_ent [.inr (.inr ((0, 12), 156))]) (bc_mt 194).2.2.1) [] bc_hC2 185 (bc_E none bc_hB) := bc_sound hall (bc_x_run bc_r2_eq).2
  have hinit : bc_Init (bc_mrg bc_hB (bc_len g) (bc_xs g)) L := by
    refine ⟨fun a b ha => congrFun (bc_mrg_at ha) b, ?_, hL, fun j hj => ?_⟩
    · unfold bc_mrg
      rw [if_neg (by decide), if_pos rfl, e2]
    · unfold bc_mrg
      rw [if_pos rfl]
      exact bc_ri _
  have ha3 : bc_Snd g false 100 0 10 185 (bc_lsL 0) [] bc_hB 185 (fun v _ => v = some (.inl 1)) := bc_phase (bc_finB_in (Bool.and_eq_true_iff.mp bc_run2).2) (bc_sound hall (hmain _ _ hinit))
  have hrun := bc_lw_run (P := bc_Snd g false) ha1 ha2 ha3
  have hRm : 100 + 8 ≤ room_1.frames ∧ 50 * 100 + 400 ≤ room_1.locals := ⟨Nat.le_of_ble_eq_true rfl, Nat.le_of_ble_eq_true rfl⟩
  have hcs : 185 ≤ room_1.cells ∧ bc_SZ 185 ≤ room_1.slots := ⟨Nat.le_of_ble_eq_true rfl, bc_SZ_all⟩
  have hAt := bc_walk hall hC (d := 100) hRm hcs hHr [.goto ((10 : Nat) : Int)] 10 (fun np ls st h q => q p l e room_1 s m _ below meth c _ 185 (bc_SZ 185) 0 (fun _ => 0) hC hRm hcs hHr) bc_lw 0 0 _ [] _ bc_lw_ok rfl hrun
  have hcv : ([.inr (.inr ((7, 0), -1))] : bc_St).map (bc_cv g (fun _ => 0)) = [Value.ref b] := by
    show [Value.ref (bc_b g)] = [Value.ref b]
    rw [e1]
  obtain ⟨l1, l2, l3⟩ := lv_entry ([Value.ref b] : List Value) (n := 4) (Nat.le_of_ble_eq_true rfl)
  rw [lg_entry_eq]
  refine hAt 0 0 s.heap [] (fun _ => 0) _ 0 ⟨Nat.zero_le _, Nat.zero_add _, ?_⟩ (Nat.le_refl _) ⟨fun k q hq => ?_, ⟨fun i j x y hx _ _ => ?_, fun k q hq => ?_⟩, fun i hi => absurd hi (Nat.not_lt_zero i), fun z => (by cases z), fun z => (by cases z), fun z => (by cases z)⟩ va_S.rf ⟨l1, l2, fun i v q => ?_⟩ (fun v q => by cases q) (fun _ _ => rfl) (bc_ck_all hk0).1
  · show 0 + (bc_SZ 185 - bc_SZ 0) = bc_SZ 185
    have : bc_SZ 0 = 0 := rfl
    omega
  · cases hq
  · cases hx
  · cases hq
  · rw [bc_lget_pad] at q
    obtain ⟨h1, h2⟩ := bc_ent_mem (g := g) (ad := fun _ => 0) [.inr (.inr ((7, 0), -1))] 0 i v q
    rw [hcv] at h2
    refine ⟨?_, by have := l3 _ h2; rwa [Nat.zero_add] at this⟩
    rcases List.mem_cons.mp h1 with rfl | h1
    · exact Or.inl rfl
    · cases h1
end
section
/-! ===== walking a method: calls in passing style, joins, what is dead is forgotten ===== -/
def bc_I (K : Int → bc_H → Prop) : bc_Q := fun r h => match r with
  | some (.inl x) => K x h
  | _ => False
def bc_J (K : Int → bc_H → Prop) : bc_Q := fun r h => match r with
  | some (.inr (.inl x)) => K x h
  | _ => False
def bc_U (K : bc_H → Prop) : bc_Q := fun r h => match r with
  | none => K h
  | _ => False
def bc_B (A B : bc_H → Prop) : bc_Q := fun r h => (r = some (.inl 1) ∧ A h) ∨ (r = some (.inl 0) ∧ B h)
def bc_C (d k : Nat) (as : bc_St) (h : bc_H) (Q : bc_Q) : Prop := bc_OK true d k 0 185 (bc_pad (bc_ent as) (bc_mt k).2.2.1) [] h 185 Q
theorem bc_cC {d k : Nat} {ls : bc_L} {h : bc_H} {M : bc_Q} {G : Nat → Option bc_V → bc_H → Prop} (H : bc_OK true d k 0 185 ls [] h 185 M) (HK : ∀ r h', M r h' → G 185 r h') : ∃ (nr : Nat) (M : bc_Q), (185 ≤ nr ∧ nr ≤ 185) ∧ bc_OK true d k 0 185 ls [] h nr M ∧ ∀ r h', M r h' → G nr r h' :=
  ⟨185, M, ⟨Nat.le_refl _, Nat.le_refl _⟩, H, HK⟩
theorem bc_cI {d k : Nat} {ls : bc_L} {h : bc_H} {KK : Int → bc_H → Prop} {G : Nat → Option bc_V → bc_H → Prop} (H : bc_OK true d k 0 185 ls [] h 185 (bc_I KK)) (HK : ∀ x h', KK x h' → G 185 (some (.inl x)) h') : ∃ (nr : Nat) (M : bc_Q), (185 ≤ nr ∧ nr ≤ 185) ∧ bc_OK true d k 0 185 ls [] h nr M ∧ ∀ r h', M r h' → G nr r h' :=
  bc_cC H (fun r h' q => by
    unfold bc_I at q
    split at q
    · exact HK _ _ q
    · exact q.elim)
theorem bc_cJ {d k : Nat} {ls : bc_L} {h : bc_H} {KK : Int → bc_H → Prop} {G : Nat → Option bc_V → bc_H → Prop} (H : bc_OK true d k 0 185 ls [] h 185 (bc_J KK)) (HK : ∀ x h', KK x h' → G 185 (some (.inr (.inl x))) h') : ∃ (nr : Nat) (M : bc_Q), (185 ≤ nr ∧ nr ≤ 185) ∧ bc_OK true d k 0 185 ls [] h nr M ∧ ∀ r h', M r h' → G nr r h' :=
  bc_cC H (fun r h' q => by
    unfold bc_J at q
    split at q
    · exact HK _ _ q
    · exact q.elim)
theorem bc_cU {d k : Nat} {ls : bc_L} {h : bc_H} {KK : bc_H → Prop} {G : Nat → Option bc_V → bc_H → Prop} (H : bc_OK true d k 0 185 ls [] h 185 (bc_U KK)) (HK : ∀ h', KK h' → G 185 none h') : ∃ (nr : Nat) (M : bc_Q), (185 ≤ nr ∧ nr ≤ 185) ∧ bc_OK true d k 0 185 ls [] h nr M ∧ ∀ r h', M r h' → G nr r h' :=
  bc_cC H (fun r h' q => by
    unfold bc_U at q
    split at q
    · exact HK _ q
    · exact q.elim)
theorem bc_cB {d k : Nat} {ls : bc_L} {h : bc_H} {A B : bc_H → Prop} {G : Nat → Option bc_V → bc_H → Prop} (H : bc_OK true d k 0 185 ls [] h 185 (bc_B A B)) (H1 : ∀ h', A h' → G 185 (some (.inl 1)) h') (H0 : ∀ h', B h' → G 185 (some (.inl 0)) h') : ∃ (nr : Nat) (M : bc_Q), (185 ≤ nr ∧ nr ≤ 185) ∧ bc_OK true d k 0 185 ls [] h nr M ∧ ∀ r h', M r h' → G nr r h' :=
  bc_cC H (fun r h' q => by
    rcases q with ⟨rfl, q⟩ | ⟨rfl, q⟩
    · exact H1 _ q
    · exact H0 _ q)
theorem bc_cW {d k : Nat} {ls : bc_L} {h : bc_H} {G : Nat → Option bc_V → bc_H → Prop} (H : bc_OK true d k 0 185 ls [] h 185 (fun r h' => G 185 r h')) : ∃ (nr : Nat) (M : bc_Q), (185 ≤ nr ∧ nr ≤ 185) ∧ bc_OK true d k 0 185 ls [] h nr M ∧ ∀ r h', M r h' → G nr r h' :=
  bc_cC H (fun _ _ q => q)
theorem bc_cS {d k : Nat} {ls : bc_L} {h : bc_H} {p : Prop} {G : Nat → Option bc_V → bc_H → Prop} (hs : ∀ A B : bc_H → Prop, (p → A h) ∧ (¬ p → B h) → bc_OK true d k 0 185 ls [] h 185 (bc_B A B)) (H1 : p → G 185 (some (.inl 1)) h) (H0 : ¬ p → G 185 (some (.inl 0)) h) : ∃ (nr : Nat) (M : bc_Q), (185 ≤ nr ∧ nr ≤ 185) ∧ bc_OK true d k 0 185 ls [] h nr M ∧ ∀ r h', M r h' → G nr r h' :=
  bc_cB (hs (fun h' => G 185 (some (.inl 1)) h') (fun h' => G 185 (some (.inl 0)) h') ⟨H1, H0⟩) (fun _ q => q) (fun _ q => q)
theorem bc_gx {d k pc : Nat} (ls : bc_L) (st : bc_St) (h : bc_H) {Q : bc_Q} (is : List Instr) (e : (bc_code k).drop pc = is) (hx : bc_seg true (bc_OK true) d k 185 Q is 185 ls st h) : bc_OK true d k pc 185 ls st h 185 Q := bc_go is e hx
theorem bc_un {ph : Bool} {d k pc np : Nat} {ls : bc_L} {st : bc_St} {h : bc_H} {nq : Nat} {Q : bc_Q} (hx : bc_OK ph d k pc np ls st h nq Q) : bc_seg ph (bc_OK ph) d k nq Q ((bc_code k).drop pc) np ls st h :=
  hx (fun d k pc np ls st h nq Q => bc_seg ph (bc_OK ph) d k nq Q ((bc_code k).drop pc) np ls st h) (fun _ _ _ _ _ _ _ _ _ q => bc_seg_mono (fun _ _ _ _ _ _ _ _ _ q => bc_ok q) _ _ _ _ _ q)
theorem bc_ifp {c : Prop} [Decidable c] {a b : Int} (P : Int → Prop) (hc : c) (H : P (if c then a else b)) : P a := by rwa [if_pos hc] at H
theorem bc_ifx {c : Prop} [Decidable c] {a b : Int} (P : Int → Prop) (hc : ¬ c) (H : P (if c then a else b)) : P b := by rwa [if_neg hc] at H
/-! what is dead is forgotten -/
def bc_le (ls ls' : bc_L) : Prop := ∀ n v, bc_lget ls n = some v → bc_lget ls' n = some v
theorem bc_le_refl (ls : bc_L) : bc_le ls ls := fun _ _ h => h
theorem bc_le_nil (ls : bc_L) : bc_le [] ls := fun n v h => by cases n <;> cases h
theorem bc_le_no {l l' : bc_L} {b : Option bc_V} (h : bc_le l l') : bc_le (none :: l) (b :: l')
  | 0, _, q => by cases q
  | n + 1, v, q => h n v q
theorem bc_le_so {l l' : bc_L} {a : Option bc_V} (h : bc_le l l') : bc_le (a :: l) (a :: l')
  | 0, _, q => q
  | n + 1, v, q => h n v q
theorem bc_lget_cl2 {l : bc_L} {n j : Nat} {w : bc_V} (h : bc_lget l j = some w) (h2 : ¬ (j + 1 = n ∧ ∃ x, w = .inr (.inl x))) : bc_lget (bc_cl l n) j = some w := by
  cases n with
  | zero => exact h
  | succ n =>
    simp only [bc_cl]
    split
    · rename_i x q
      rw [bc_lget_set]
      by_cases e : j = n
      · subst e
        rw [q] at h
        cases h
        exact absurd ⟨rfl, _, rfl⟩ h2
      · rw [if_neg e]; exact h
    · exact h
theorem bc_le_cl {ls ls' : bc_L} (hl : bc_le ls ls') (n : Nat) : bc_le (bc_cl ls n) (bc_cl ls' n) := fun j w q => by
  obtain ⟨h1, h2⟩ := bc_lget_cl q
  exact bc_lget_cl2 (hl _ _ h1) h2
theorem bc_le_set {ls ls' : bc_L} (hl : bc_le ls ls') (n : Nat) (v : Option bc_V) : bc_le (bc_lset ls n v) (bc_lset ls' n v) := fun j w q => by
  rw [bc_lget_set] at q ⊢
  split
  · rename_i e; rw [if_pos e] at q; exact q
  · rename_i e; rw [if_neg e] at q; exact hl _ _ q
def bc_nl (i : Instr) : Prop := match i with
  | .iload _ => False | .lload _ => False | .aload _ => False | .istore _ => False | .lstore _ => False | .astore _ => False | .iinc _ _ => False
  | _ => True
set_option maxHeartbeats 4000000 in
theorem bc_s1_nl {ph : Bool} (i : Instr) (hi : bc_nl i) (st : bc_St) (h : bc_H) (ls : bc_L) : bc_s1 ph i ls st h = ((bc_s1 ph i [] st h).map (fun x => (x.1, x.2.2))).map (fun x => (x.1, ls, x.2)) := by
  cases i
  all_goals first
    | rfl
    | exact hi.elim
    | (simp only [bc_s1, bc_bt, bc_b0, bc_b1, bc_b2, bc_b3, bc_b4, bc_b5, bc_b6]; repeat' (first | rfl | split))
theorem bc_wp_le {x : Option (bc_G × bc_St × bc_H)} {ls ls' : bc_L} (hl : bc_le ls ls') {K K' : bc_L → bc_St → bc_H → Prop} (hK : ∀ a a' st h, bc_le a a' → K a st h → K' a' st h) (hx : bc_wp (x.map (fun x => (x.1, ls, x.2))) K) : bc_wp (x.map (fun x => (x.1, ls', x.2))) K' := by
  match x, hx with
  | none, hx => exact hx
  | some (none, st, h), hx => exact hK _ _ _ _ hl hx
  | some (some g, st, h), hx => exact ⟨hx.1, hK _ _ _ _ hl hx.2⟩
theorem bc_s1_le {ph : Bool} {ls ls' : bc_L} (hl : bc_le ls ls') (i : Instr) (st : bc_St) (h : bc_H) {K K' : bc_L → bc_St → bc_H → Prop} (hK : ∀ a a' st h, bc_le a a' → K a st h → K' a' st h) (hx : bc_wp (bc_s1 ph i ls st h) K) : bc_wp (bc_s1 ph i ls' st h) K' := by
  by_cases hn : bc_nl i
  · rw [bc_s1_nl i hn] at hx ⊢
    exact bc_wp_le hl hK hx
  · cases i with
    | iload n =>
      simp only [bc_s1] at hx ⊢
      split at hx
      · rename_i q; rw [hl _ _ q]; exact hK _ _ _ _ hl hx
      · exact hx.elim
    | lload n =>
      simp only [bc_s1] at hx ⊢
      split at hx
      · rename_i q; rw [hl _ _ q]; exact hK _ _ _ _ hl hx
      · exact hx.elim
    | aload n =>
      simp only [bc_s1] at hx ⊢
      split at hx
      · rename_i q; rw [hl _ _ q]; exact hK _ _ _ _ hl hx
      · exact hx.elim
    | iinc n v =>
      simp only [bc_s1] at hx ⊢
      split at hx
      · rename_i q; rw [hl _ _ q]; exact hK _ _ _ _ (bc_le_set (bc_le_cl hl _) _ _) hx
      · exact hx.elim
    | istore n =>
      simp only [bc_s1] at hx ⊢
      split at hx
      · exact hK _ _ _ _ (bc_le_set (bc_le_cl hl _) _ _) hx
      · exact hx.elim
    | lstore n =>
      simp only [bc_s1] at hx ⊢
      split at hx
      · exact hK _ _ _ _ (bc_le_set (bc_le_set (bc_le_cl hl _) _ _) _ _) hx
      · exact hx.elim
    | astore n =>
      simp only [bc_s1] at hx ⊢
      split at hx
      · exact hK _ _ _ _ (bc_le_set (bc_le_cl hl _) _ _) hx
      · exact hx.elim
    | _ => exact absurd trivial hn
theorem bc_seg_le {ph : Bool} {P P' : bc_P} (hP : ∀ d k pc np ls ls' st h nq Q, bc_le ls ls' → P d k pc np ls st h nq Q → P' d k pc np ls' st h nq Q) {d k nq : Nat} {Q : bc_Q} :
    ∀ (is : List Instr) (np : Nat) (ls ls' : bc_L) (st : bc_St) (h : bc_H), bc_le ls ls' → bc_seg ph P d k nq Q is np ls st h → bc_seg ph P' d k nq Q is np ls' st h := by
  intro is
  induction is with
  | nil => intro np ls ls' st h _ hx; exact hx
  | cons i is ih =>
    intro np ls ls' st h hl hx
    unfold bc_seg at hx ⊢
    split at hx
    all_goals first
      | exact hP _ _ _ _ _ _ _ _ _ _ hl hx
      | exact bc_cal_mono (fun _ _ _ _ _ _ _ _ _ q => hP _ _ _ _ _ _ _ _ _ _ (bc_le_refl _) q) (fun _ _ _ q => ih _ _ _ _ _ hl q) hx
      | exact bc_s1_le hl _ _ _ (fun _ _ _ _ a q => ih _ _ _ _ _ a q) hx
      | exact hx
      | (split at hx
         all_goals first
           | exact hx
           | exact ⟨fun e => hP _ _ _ _ _ _ _ _ _ _ hl (hx.1 e), fun e => ih _ _ _ _ _ hl (hx.2 e)⟩
           | exact bc_sw_mono (fun _ q => hP _ _ _ _ _ _ _ _ _ _ hl q) _ hx
           | exact ⟨hx.1, ih _ _ _ _ _ hl hx.2⟩)
theorem bc_fg {ph : Bool} {d k pc np : Nat} {ls ls' : bc_L} {st : bc_St} {h : bc_H} {nq : Nat} {Q : bc_Q} (hl : bc_le ls ls') (hx : bc_OK ph d k pc np ls st h nq Q) : bc_OK ph d k pc np ls' st h nq Q :=
  hx (fun d k pc np ls st h nq Q => ∀ ls', bc_le ls ls' → bc_OK ph d k pc np ls' st h nq Q) (fun _ _ _ _ _ _ _ _ _ q ls' hl => bc_ok (bc_seg_le (fun _ _ _ _ _ _ _ _ _ _ hl q => q _ hl) _ _ _ _ _ _ hl q)) ls' hl
theorem bc_rB {v : Int} {A B : bc_H → Prop} {h : bc_H} (H : (v = 1 → A h) ∧ (v = 0 → B h) ∧ (v = 0 ∨ v = 1)) : (v = 0 ∨ v = 1) ∧ bc_B A B (some (.inl v)) h := by
  refine ⟨H.2.2, ?_⟩
  rcases H.2.2 with rfl | rfl
  · exact Or.inr ⟨rfl, H.2.1 rfl⟩
  · exact Or.inl ⟨rfl, H.1 rfl⟩
theorem bc_lcy {c : ClassFile.Cond} {a b : Int} (h : bc_yes c (bc_lcmp a b) 0) : bc_yes c a b := by
  unfold bc_lcmp at h
  cases c <;> simp only [bc_yes] at h ⊢ <;> (split at h) <;> (try split at h) <;> omega
theorem bc_lcn {c : ClassFile.Cond} {a b : Int} (h : bc_not c (bc_lcmp a b) 0) : bc_not c a b := by
  unfold bc_lcmp at h
  cases c <;> simp only [bc_not] at h ⊢ <;> (split at h) <;> (try split at h) <;> omega
theorem bc_let {p g : Prop} (H : p) (f : p → g) : g := f H
end
section
def bf_Ahead_watch (d : Nat) (c0 : Int) (a1 : Int) (a2 : Int) (h : bc_H) (Q : bc_Q) : Prop := bc_C d 2 [.inr (.inr ((0, 0), 14)), .inr (.inr ((0, 2), c0)), .inl a1, .inl a2] h Q
def bf_Ahead_longestLook (d : Nat) (c0 : Int) (a1 : Int) (a2 : Int) (h : bc_H) (Q : bc_Q) : Prop := bc_C d 3 [.inr (.inr ((0, 0), 14)), .inr (.inr ((0, 2), c0)), .inl a1, .inl a2] h Q
def bf_Ahead_whoWithSelf (d : Nat) (c0 : Int) (a1 : Int) (a2 : Int) (h : bc_H) (Q : bc_Q) : Prop := bc_C d 4 [.inr (.inr ((0, 0), 14)), .inr (.inr ((0, 2), c0)), .inl a1, .inl a2] h Q
def bf_Ahead_fittingSelves (d : Nat) (c0 : Int) (a1 : Int) (a3 : Int) (a4 : Int) (h : bc_H) (Q : bc_Q) : Prop := bc_C d 5 [.inr (.inr ((0, 0), 14)), .inr (.inr ((0, 2), c0)), .inl a1, .inr (.inr ((0, 9), 2)), .inl a3, .inl a4] h Q
def bf_Ahead_bestParting (d : Nat) (a0 : Int) (h : bc_H) (Q : bc_Q) : Prop := bc_C d 6 [.inr (.inr ((0, 0), 14)), .inr (.inl a0)] h Q
def bf_Beasts_clear (d : Nat) (c : Int) (h : bc_H) (Q : bc_Q) : Prop := bc_C d 8 [.inr (.inr ((0, 1), c))] h Q
def bf_Beasts_copyOf (d : Nat) (c : Int) (c0 : Int) (h : bc_H) (Q : bc_Q) : Prop := bc_C d 9 [.inr (.inr ((0, 1), c)), .inr (.inr ((0, 1), c0))] h Q
def bf_Beasts_countRows (d : Nat) (c : Int) (a0 : Int) (h : bc_H) (Q : bc_Q) : Prop := bc_C d 10 [.inr (.inr ((0, 1), c)), .inl a0, .inr (.inr ((1, 512), 23))] h Q
def bf_Beasts_greatestProduct (d : Nat) (c : Int) (a0 : Int) (h : bc_H) (Q : bc_Q) : Prop := bc_C d 11 [.inr (.inr ((0, 1), c)), .inl a0, .inr (.inr ((1, 512), 23))] h Q
def bf_Beasts_inBestRow (d : Nat) (c : Int) (a0 : Int) (a1 : Int) (h : bc_H) (Q : bc_Q) : Prop := bc_C d 12 [.inr (.inr ((0, 1), c)), .inl a0, .inl a1, .inr (.inr ((1, 512), 23))] h Q
def bf_Cave_clear (d : Nat) (c : Int) (h : bc_H) (Q : bc_Q) : Prop := bc_C d 14 [.inr (.inr ((0, 2), c))] h Q
def bf_Cave_copyOf (d : Nat) (c : Int) (c0 : Int) (h : bc_H) (Q : bc_Q) : Prop := bc_C d 15 [.inr (.inr ((0, 2), c)), .inr (.inr ((0, 2), c0))] h Q
def bf_Cave_addName (d : Nat) (c : Int) (a0 : Int) (a1 : Int) (a2 : Int) (h : bc_H) (Q : bc_Q) : Prop := bc_C d 16 [.inr (.inr ((0, 2), c)), .inr (.inl a0), .inl a1, .inl a2] h Q
def bf_Cave_isTaken (d : Nat) (c : Int) (a0 : Int) (h : bc_H) (Q : bc_Q) : Prop := bc_C d 17 [.inr (.inr ((0, 2), c)), .inr (.inl a0)] h Q
def bf_Cave_named (d : Nat) (c : Int) (a0 : Int) (a1 : Int) (h : bc_H) (Q : bc_Q) : Prop := bc_C d 18 [.inr (.inr ((0, 2), c)), .inr (.inl a0), .inl a1] h Q
def bf_Cave_copyRow (d : Nat) (m0 : Nat) (r0 : Int) (a1 : Int) (m2 : Nat) (r2 : Int) (a3 : Int) (h : bc_H) (Q : bc_Q) : Prop := bc_C d 19 [.inr (.inr ((1, m0), r0)), .inl a1, .inr (.inr ((1, m2), r2)), .inl a3] h Q
def bf_Cave_change (d : Nat) (m0 : Nat) (r0 : Int) (a1 : Int) (a2 : Int) (a3 : Int) (h : bc_H) (Q : bc_Q) : Prop := bc_C d 20 [.inr (.inr ((1, m0), r0)), .inl a1, .inl a2, .inl a3] h Q
def bf_Cave_greatest (d : Nat) (m0 : Nat) (r0 : Int) (a1 : Int) (h : bc_H) (Q : bc_Q) : Prop := bc_C d 21 [.inr (.inr ((1, m0), r0)), .inl a1] h Q
def bf_Cave_foremost (d : Nat) (m0 : Nat) (r0 : Int) (a1 : Int) (h : bc_H) (Q : bc_Q) : Prop := bc_C d 22 [.inr (.inr ((1, m0), r0)), .inl a1] h Q
def bf_Cave_addVisitor (d : Nat) (c : Int) (a0 : Int) (a1 : Int) (h : bc_H) (Q : bc_Q) : Prop := bc_C d 23 [.inr (.inr ((0, 2), c)), .inl a0, .inl a1] h Q
def bf_Cave_greatestOf (d : Nat) (c : Int) (a0 : Int) (h : bc_H) (Q : bc_Q) : Prop := bc_C d 24 [.inr (.inr ((0, 2), c)), .inl a0] h Q
def bf_Cave_isTurned (d : Nat) (c : Int) (a0 : Int) (h : bc_H) (Q : bc_Q) : Prop := bc_C d 25 [.inr (.inr ((0, 2), c)), .inl a0] h Q
def bf_Cave_turnedOnes (d : Nat) (c : Int) (h : bc_H) (Q : bc_Q) : Prop := bc_C d 26 [.inr (.inr ((0, 2), c))] h Q
def bf_Cave_goingOnes (d : Nat) (c : Int) (h : bc_H) (Q : bc_Q) : Prop := bc_C d 27 [.inr (.inr ((0, 2), c))] h Q
def bf_Cave_passMinute (d : Nat) (c : Int) (h : bc_H) (Q : bc_Q) : Prop := bc_C d 28 [.inr (.inr ((0, 2), c))] h Q
def bf_Cave_goTo (d : Nat) (c : Int) (a0 : Int) (a1 : Int) (h : bc_H) (Q : bc_Q) : Prop := bc_C d 29 [.inr (.inr ((0, 2), c)), .inl a0, .inl a1] h Q
def bf_Cave_rouse (d : Nat) (c : Int) (a0 : Int) (h : bc_H) (Q : bc_Q) : Prop := bc_C d 30 [.inr (.inr ((0, 2), c)), .inl a0] h Q
def bf_Cave_addOil (d : Nat) (c : Int) (a0 : Int) (h : bc_H) (Q : bc_Q) : Prop := bc_C d 31 [.inr (.inr ((0, 2), c)), .inl a0] h Q
def bf_Days_clear (d : Nat) (c : Int) (h : bc_H) (Q : bc_Q) : Prop := bc_C d 33 [.inr (.inr ((0, 3), c))] h Q
def bf_Days_copyOf (d : Nat) (c : Int) (c0 : Int) (h : bc_H) (Q : bc_Q) : Prop := bc_C d 34 [.inr (.inr ((0, 3), c)), .inr (.inr ((0, 3), c0))] h Q
def bf_Days_add (d : Nat) (c : Int) (a0 : Int) (a1 : Int) (a2 : Int) (a3 : Int) (h : bc_H) (Q : bc_Q) : Prop := bc_C d 35 [.inr (.inr ((0, 3), c)), .inl a0, .inl a1, .inl a2, .inl a3] h Q
def bf_Days_pair (d : Nat) (c : Int) (a0 : Int) (a1 : Int) (h : bc_H) (Q : bc_Q) : Prop := bc_C d 36 [.inr (.inr ((0, 3), c)), .inl a0, .inl a1] h Q
def bf_Figures_clear (d : Nat) (c : Int) (h : bc_H) (Q : bc_Q) : Prop := bc_C d 38 [.inr (.inr ((0, 4), c))] h Q
def bf_Figures_copyOf (d : Nat) (c : Int) (c0 : Int) (h : bc_H) (Q : bc_Q) : Prop := bc_C d 39 [.inr (.inr ((0, 4), c)), .inr (.inr ((0, 4), c0))] h Q
def bf_Figures_add (d : Nat) (c : Int) (a0 : Int) (a1 : Int) (a2 : Int) (h : bc_H) (Q : bc_Q) : Prop := bc_C d 40 [.inr (.inr ((0, 4), c)), .inl a0, .inl a1, .inl a2] h Q
def bf_Figures_countOrders (d : Nat) (c : Int) (h : bc_H) (Q : bc_Q) : Prop := bc_C d 41 [.inr (.inr ((0, 4), c)), .inr (.inr ((1, 512), 23))] h Q
def bf_Figures_inFirstOrder (d : Nat) (c : Int) (a0 : Int) (h : bc_H) (Q : bc_Q) : Prop := bc_C d 42 [.inr (.inr ((0, 4), c)), .inl a0] h Q
def bf_Figures_allBelow (d : Nat) (c : Int) (a0 : Int) (h : bc_H) (Q : bc_Q) : Prop := bc_C d 43 [.inr (.inr ((0, 4), c)), .inl a0] h Q
def bf_Figures_isLikeAll (d : Nat) (c : Int) (a0 : Int) (a1 : Int) (a2 : Int) (h : bc_H) (Q : bc_Q) : Prop := bc_C d 44 [.inr (.inr ((0, 4), c)), .inl a0, .inl a1, .inl a2] h Q
def bf_Figures_findLikeSets (d : Nat) (c : Int) (a0 : Int) (h : bc_H) (Q : bc_Q) : Prop := bc_C d 45 [.inr (.inr ((0, 4), c)), .inl a0, .inr (.inr ((1, 512), 23))] h Q
def bf_Figures_fewestSets (d : Nat) (c : Int) (a0 : Int) (h : bc_H) (Q : bc_Q) : Prop := bc_C d 46 [.inr (.inr ((0, 4), c)), .inl a0, .inr (.inr ((1, 512), 23))] h Q
def bf_Figures_greatestSet (d : Nat) (c : Int) (a0 : Int) (h : bc_H) (Q : bc_Q) : Prop := bc_C d 47 [.inr (.inr ((0, 4), c)), .inl a0, .inr (.inr ((1, 512), 23))] h Q
def bf_Life_run (d : Nat) (c0 : Int) (c1 : Int) (a2 : Int) (h : bc_H) (Q : bc_Q) : Prop := bc_C d 49 [.inr (.inr ((0, 5), 12)), .inr (.inr ((0, 2), c0)), .inr (.inr ((0, 3), c1)), .inl a2] h Q
def bf_Life_behindEnd (d : Nat) (a0 : Int) (h : bc_H) (Q : bc_Q) : Prop := bc_C d 50 [.inr (.inr ((0, 5), 12)), .inl a0] h Q
def bf_Life_behindStep (d : Nat) (a0 : Int) (h : bc_H) (Q : bc_Q) : Prop := bc_C d 51 [.inr (.inr ((0, 5), 12)), .inl a0] h Q
def bf_Life_isThere (d : Nat) (a0 : Int) (h : bc_H) (Q : bc_Q) : Prop := bc_C d 52 [.inr (.inr ((0, 5), 12)), .inl a0] h Q
def bf_Life_holds (d : Nat) (a0 : Int) (h : bc_H) (Q : bc_Q) : Prop := bc_C d 53 [.inr (.inr ((0, 5), 12)), .inl a0] h Q
def bf_Life_letPass (d : Nat) (a0 : Int) (h : bc_H) (Q : bc_Q) : Prop := bc_C d 54 [.inr (.inr ((0, 5), 12)), .inl a0] h Q
def bf_Life_leadOne (d : Nat) (a0 : Int) (h : bc_H) (Q : bc_Q) : Prop := bc_C d 55 [.inr (.inr ((0, 5), 12)), .inl a0] h Q
def bf_Life_pick (d : Nat) (a0 : Int) (h : bc_H) (Q : bc_Q) : Prop := bc_C d 56 [.inr (.inr ((0, 5), 12)), .inl a0] h Q
def bf_Reader_takeCave (d : Nat) (a0 : Int) (c1 : Int) (h : bc_H) (Q : bc_Q) : Prop := bc_C d 58 [.inr (.inr ((0, 6), 9)), .inl a0, .inr (.inr ((0, 2), c1))] h Q
def bf_Reader_takePart (d : Nat) (h : bc_H) (Q : bc_Q) : Prop := bc_C d 59 [.inr (.inr ((0, 6), 9))] h Q
def bf_Reader_newName (d : Nat) (a0 : Int) (a1 : Int) (h : bc_H) (Q : bc_Q) : Prop := bc_C d 60 [.inr (.inr ((0, 6), 9)), .inl a0, .inl a1] h Q
def bf_Reader_knownName (d : Nat) (a0 : Int) (a1 : Int) (h : bc_H) (Q : bc_Q) : Prop := bc_C d 61 [.inr (.inr ((0, 6), 9)), .inl a0, .inl a1] h Q
def bf_Reader_takeLamp (d : Nat) (h : bc_H) (Q : bc_Q) : Prop := bc_C d 62 [.inr (.inr ((0, 6), 9))] h Q
def bf_Reader_takeOdds (d : Nat) (h : bc_H) (Q : bc_Q) : Prop := bc_C d 63 [.inr (.inr ((0, 6), 9))] h Q
def bf_Reader_takeBeast (d : Nat) (h : bc_H) (Q : bc_Q) : Prop := bc_C d 64 [.inr (.inr ((0, 6), 9))] h Q
def bf_Reader_takeWall (d : Nat) (h : bc_H) (Q : bc_Q) : Prop := bc_C d 65 [.inr (.inr ((0, 6), 9))] h Q
def bf_Reader_takeWay (d : Nat) (h : bc_H) (Q : bc_Q) : Prop := bc_C d 66 [.inr (.inr ((0, 6), 9))] h Q
def bf_Reader_takeVisitor (d : Nat) (h : bc_H) (Q : bc_Q) : Prop := bc_C d 67 [.inr (.inr ((0, 6), 9))] h Q
def bf_Reader_takeFigure (d : Nat) (h : bc_H) (Q : bc_Q) : Prop := bc_C d 68 [.inr (.inr ((0, 6), 9))] h Q
def bf_Reader_takeOver (d : Nat) (h : bc_H) (Q : bc_Q) : Prop := bc_C d 69 [.inr (.inr ((0, 6), 9))] h Q
def bf_Reader_takeFollows (d : Nat) (h : bc_H) (Q : bc_Q) : Prop := bc_C d 70 [.inr (.inr ((0, 6), 9))] h Q
def bf_Reader_takeDays (d : Nat) (a0 : Int) (c1 : Int) (c2 : Int) (h : bc_H) (Q : bc_Q) : Prop := bc_C d 71 [.inr (.inr ((0, 6), 9)), .inl a0, .inr (.inr ((0, 2), c1)), .inr (.inr ((0, 3), c2))] h Q
def bf_Reader_takeEnd (d : Nat) (h : bc_H) (Q : bc_Q) : Prop := bc_C d 72 [.inr (.inr ((0, 6), 9))] h Q
def bf_Reader_takeStep (d : Nat) (h : bc_H) (Q : bc_Q) : Prop := bc_C d 73 [.inr (.inr ((0, 6), 9))] h Q
def bf_Reader_isStep (d : Nat) (a0 : Int) (h : bc_H) (Q : bc_Q) : Prop := bc_C d 74 [.inl a0] h Q
def bf_Reader_takeRest (d : Nat) (a0 : Int) (h : bc_H) (Q : bc_Q) : Prop := bc_C d 75 [.inr (.inr ((0, 6), 9)), .inl a0] h Q
def bf_Reader_takeTest (d : Nat) (h : bc_H) (Q : bc_Q) : Prop := bc_C d 76 [.inr (.inr ((0, 6), 9))] h Q
def bf_Search_start (d : Nat) (c0 : Int) (a1 : Int) (h : bc_H) (Q : bc_Q) : Prop := bc_C d 78 [.inr (.inr ((0, 7), 18)), .inr (.inr ((0, 2), c0)), .inl a1] h Q
def bf_Search_findTour (d : Nat) (c0 : Int) (a1 : Int) (a2 : Int) (a3 : Int) (h : bc_H) (Q : bc_Q) : Prop := bc_C d 79 [.inr (.inr ((0, 7), 18)), .inr (.inr ((0, 2), c0)), .inl a1, .inl a2, .inl a3] h Q
def bf_Search_goOn (d : Nat) (a0 : Int) (a1 : Int) (a2 : Int) (a3 : Int) (h : bc_H) (Q : bc_Q) : Prop := bc_C d 80 [.inr (.inr ((0, 7), 18)), .inl a0, .inl a1, .inl a2, .inl a3] h Q
def bf_Search_staysHimself (d : Nat) (a0 : Int) (a1 : Int) (a2 : Int) (h : bc_H) (Q : bc_Q) : Prop := bc_C d 81 [.inr (.inr ((0, 7), 18)), .inl a0, .inl a1, .inl a2] h Q
def bf_Search_playGame (d : Nat) (c0 : Int) (a1 : Int) (a2 : Int) (h : bc_H) (Q : bc_Q) : Prop := bc_C d 82 [.inr (.inr ((0, 7), 18)), .inr (.inr ((0, 2), c0)), .inl a1, .inl a2] h Q
def bf_Search_valueOf (d : Nat) (a0 : Int) (a1 : Int) (a2 : Int) (h : bc_H) (Q : bc_Q) : Prop := bc_C d 83 [.inr (.inr ((0, 7), 18)), .inl a0, .inl a1, .inl a2] h Q
def bf_Search_bestOfGuide (d : Nat) (a0 : Int) (a1 : Int) (a2 : Int) (h : bc_H) (Q : bc_Q) : Prop := bc_C d 84 [.inr (.inr ((0, 7), 18)), .inl a0, .inl a1, .inl a2] h Q
def bf_Search_bestOfBeast (d : Nat) (a0 : Int) (a1 : Int) (a2 : Int) (h : bc_H) (Q : bc_Q) : Prop := bc_C d 85 [.inr (.inr ((0, 7), 18)), .inl a0, .inl a1, .inl a2] h Q
def bf_Search_behindMinute (d : Nat) (a0 : Int) (a1 : Int) (a2 : Int) (h : bc_H) (Q : bc_Q) : Prop := bc_C d 86 [.inr (.inr ((0, 7), 18)), .inl a0, .inl a1, .inl a2] h Q
def bf_Text_append (d : Nat) (a0 : Int) (h : bc_H) (Q : bc_Q) : Prop := bc_C d 88 [.inr (.inr ((0, 8), 6)), .inl a0] h Q
def bf_Text_begin (d : Nat) (a0 : Int) (h : bc_H) (Q : bc_Q) : Prop := bc_C d 89 [.inr (.inr ((0, 8), 6)), .inl a0] h Q
def bf_Text_isAtEnd (d : Nat) (h : bc_H) (Q : bc_Q) : Prop := bc_C d 90 [.inr (.inr ((0, 8), 6))] h Q
def bf_Text_isName (d : Nat) (h : bc_H) (Q : bc_Q) : Prop := bc_C d 91 [.inr (.inr ((0, 8), 6))] h Q
def bf_Text_fail (d : Nat) (a0 : Int) (h : bc_H) (Q : bc_Q) : Prop := bc_C d 92 [.inr (.inr ((0, 8), 6)), .inl a0] h Q
def bf_Text_needWord (d : Nat) (a0 : Int) (h : bc_H) (Q : bc_Q) : Prop := bc_C d 93 [.inr (.inr ((0, 8), 6)), .inl a0] h Q
def bf_Text_needSign (d : Nat) (a0 : Int) (h : bc_H) (Q : bc_Q) : Prop := bc_C d 94 [.inr (.inr ((0, 8), 6)), .inl a0] h Q
def bf_Text_needNumber (d : Nat) (a0 : Int) (a1 : Int) (h : bc_H) (Q : bc_Q) : Prop := bc_C d 95 [.inr (.inr ((0, 8), 6)), .inl a0, .inl a1] h Q
def bf_Text_advance (d : Nat) (h : bc_H) (Q : bc_Q) : Prop := bc_C d 96 [.inr (.inr ((0, 8), 6))] h Q
def bf_Text_takeWord (d : Nat) (h : bc_H) (Q : bc_Q) : Prop := bc_C d 97 [.inr (.inr ((0, 8), 6))] h Q
def bf_Text_takeNumber (d : Nat) (h : bc_H) (Q : bc_Q) : Prop := bc_C d 98 [.inr (.inr ((0, 8), 6))] h Q
def bf_Text_takeSign (d : Nat) (h : bc_H) (Q : bc_Q) : Prop := bc_C d 99 [.inr (.inr ((0, 8), 6))] h Q
def bf_Trays_isTray (d : Nat) (a0 : Int) (h : bc_H) (Q : bc_Q) : Prop := bc_C d 101 [.inl a0] h Q
def bf_Trays_isMissing (d : Nat) (a0 : Int) (h : bc_H) (Q : bc_Q) : Prop := bc_C d 102 [.inr (.inr ((0, 9), 2)), .inl a0] h Q
def bf_Trays_sortOf (d : Nat) (a0 : Int) (h : bc_H) (Q : bc_Q) : Prop := bc_C d 103 [.inr (.inr ((0, 9), 2)), .inl a0] h Q
def bf_Trays_reaches (d : Nat) (a0 : Int) (a1 : Int) (a2 : Int) (h : bc_H) (Q : bc_Q) : Prop := bc_C d 104 [.inr (.inr ((0, 9), 2)), .inl a0, .inl a1, .inl a2] h Q
def bf_Trays_lay (d : Nat) (a0 : Int) (a1 : Int) (a2 : Int) (h : bc_H) (Q : bc_Q) : Prop := bc_C d 105 [.inr (.inr ((0, 9), 2)), .inl a0, .inl a1, .inl a2] h Q
def bf_Trays_at (d : Nat) (a0 : Int) (a1 : Int) (h : bc_H) (Q : bc_Q) : Prop := bc_C d 106 [.inr (.inr ((0, 9), 2)), .inl a0, .inl a1] h Q
def bf_Trays_put (d : Nat) (a0 : Int) (a1 : Int) (a2 : Int) (h : bc_H) (Q : bc_Q) : Prop := bc_C d 107 [.inr (.inr ((0, 9), 2)), .inl a0, .inl a1, .inr (.inl a2)] h Q
def bf_Trays_cut (d : Nat) (a0 : Int) (a1 : Int) (h : bc_H) (Q : bc_Q) : Prop := bc_C d 108 [.inr (.inl a0), .inl a1] h Q
def bf_Trays_move (d : Nat) (a0 : Int) (a1 : Int) (a2 : Int) (a3 : Int) (a4 : Int) (h : bc_H) (Q : bc_Q) : Prop := bc_C d 109 [.inr (.inr ((0, 9), 2)), .inl a0, .inl a1, .inl a2, .inl a3, .inl a4] h Q
def bf_Walls_clear (d : Nat) (c : Int) (h : bc_H) (Q : bc_Q) : Prop := bc_C d 111 [.inr (.inr ((0, 10), c))] h Q
def bf_Walls_copyOf (d : Nat) (c : Int) (c0 : Int) (h : bc_H) (Q : bc_Q) : Prop := bc_C d 112 [.inr (.inr ((0, 10), c)), .inr (.inr ((0, 10), c0))] h Q
def bf_Walls_add (d : Nat) (c : Int) (a0 : Int) (a1 : Int) (h : bc_H) (Q : bc_Q) : Prop := bc_C d 113 [.inr (.inr ((0, 10), c)), .inl a0, .inl a1] h Q
def bf_Walls_join (d : Nat) (c : Int) (a0 : Int) (a1 : Int) (a2 : Int) (h : bc_H) (Q : bc_Q) : Prop := bc_C d 114 [.inr (.inr ((0, 10), c)), .inl a0, .inl a1, .inl a2] h Q
def bf_Walls_bareOnes (d : Nat) (c : Int) (h : bc_H) (Q : bc_Q) : Prop := bc_C d 115 [.inr (.inr ((0, 10), c))] h Q
def bf_Walls_nextTo (d : Nat) (c : Int) (a0 : Int) (h : bc_H) (Q : bc_Q) : Prop := bc_C d 116 [.inr (.inr ((0, 10), c)), .inl a0] h Q
def bf_Walls_measureDistances (d : Nat) (c : Int) (h : bc_H) (Q : bc_Q) : Prop := bc_C d 117 [.inr (.inr ((0, 10), c))] h Q
def bf_Walls_shorten (d : Nat) (c : Int) (a0 : Int) (a1 : Int) (a2 : Int) (h : bc_H) (Q : bc_Q) : Prop := bc_C d 118 [.inr (.inr ((0, 10), c)), .inl a0, .inl a1, .inl a2] h Q
def bf_X_status (d : Nat) (h : bc_H) (Q : bc_Q) : Prop := bc_C d 120 [.inr (.inr ((0, 11), 0))] h Q
def bf_X_top (d : Nat) (h : bc_H) (Q : bc_Q) : Prop := bc_C d 121 [.inr (.inr ((0, 11), 0))] h Q
def bf_X_bottom (d : Nat) (h : bc_H) (Q : bc_Q) : Prop := bc_C d 122 [.inr (.inr ((0, 11), 0))] h Q
def bf_X_tray (d : Nat) (a0 : Int) (a1 : Int) (a2 : Int) (h : bc_H) (Q : bc_Q) : Prop := bc_C d 123 [.inr (.inr ((0, 11), 0)), .inl a0, .inl a1, .inl a2] h Q
def bf_X_write (d : Nat) (a0 : Int) (a1 : Int) (a2 : Int) (h : bc_H) (Q : bc_Q) : Prop := bc_C d 124 [.inr (.inr ((0, 11), 0)), .inl a0, .inl a1, .inr (.inl a2)] h Q
def bf_X_read (d : Nat) (a0 : Int) (a1 : Int) (h : bc_H) (Q : bc_Q) : Prop := bc_C d 125 [.inr (.inr ((0, 11), 0)), .inl a0, .inl a1] h Q
def bf_X_pour (d : Nat) (a0 : Int) (a1 : Int) (a2 : Int) (a3 : Int) (a4 : Int) (h : bc_H) (Q : bc_Q) : Prop := bc_C d 126 [.inr (.inr ((0, 11), 0)), .inl a0, .inl a1, .inl a2, .inl a3, .inl a4] h Q
def bf_X_feed (d : Nat) (a0 : Int) (a1 : Int) (a2 : Int) (a3 : Int) (a4 : Int) (h : bc_H) (Q : bc_Q) : Prop := bc_C d 127 [.inr (.inr ((0, 11), 0)), .inl a0, .inl a1, .inl a2, .inl a3, .inl a4] h Q
def bf_X_cave (d : Nat) (a0 : Int) (h : bc_H) (Q : bc_Q) : Prop := bc_C d 128 [.inr (.inr ((0, 11), 0)), .inl a0] h Q
def bf_X_days (d : Nat) (a0 : Int) (h : bc_H) (Q : bc_Q) : Prop := bc_C d 129 [.inr (.inr ((0, 11), 0)), .inl a0] h Q
def bf_X_fault (d : Nat) (a0 : Int) (h : bc_H) (Q : bc_Q) : Prop := bc_C d 130 [.inr (.inr ((0, 11), 0)), .inl a0] h Q
def bf_X_told (d : Nat) (a0 : Int) (h : bc_H) (Q : bc_Q) : Prop := bc_C d 131 [.inr (.inr ((0, 11), 0)), .inl a0] h Q
def bf_X_wall (d : Nat) (a0 : Int) (a1 : Int) (h : bc_H) (Q : bc_Q) : Prop := bc_C d 132 [.inr (.inr ((0, 11), 0)), .inl a0, .inl a1] h Q
def bf_X_visitor (d : Nat) (a0 : Int) (a1 : Int) (h : bc_H) (Q : bc_Q) : Prop := bc_C d 133 [.inr (.inr ((0, 11), 0)), .inl a0, .inl a1] h Q
def bf_X_measure (d : Nat) (a0 : Int) (a1 : Int) (h : bc_H) (Q : bc_Q) : Prop := bc_C d 134 [.inr (.inr ((0, 11), 0)), .inl a0, .inl a1] h Q
def bf_X_who (d : Nat) (a0 : Int) (h : bc_H) (Q : bc_Q) : Prop := bc_C d 135 [.inr (.inr ((0, 11), 0)), .inl a0] h Q
def bf_X_figure (d : Nat) (a0 : Int) (a1 : Int) (h : bc_H) (Q : bc_Q) : Prop := bc_C d 136 [.inr (.inr ((0, 11), 0)), .inl a0, .inl a1] h Q
def bf_X_weight (d : Nat) (a0 : Int) (a1 : Int) (h : bc_H) (Q : bc_Q) : Prop := bc_C d 137 [.inr (.inr ((0, 11), 0)), .inl a0, .inl a1] h Q
def bf_X_minute (d : Nat) (a0 : Int) (h : bc_H) (Q : bc_Q) : Prop := bc_C d 138 [.inr (.inr ((0, 11), 0)), .inl a0] h Q
def bf_X_lead (d : Nat) (a0 : Int) (a1 : Int) (h : bc_H) (Q : bc_Q) : Prop := bc_C d 139 [.inr (.inr ((0, 11), 0)), .inl a0, .inl a1] h Q
def bf_X_wake (d : Nat) (a0 : Int) (h : bc_H) (Q : bc_Q) : Prop := bc_C d 140 [.inr (.inr ((0, 11), 0)), .inl a0] h Q
def bf_X_fill (d : Nat) (a0 : Int) (h : bc_H) (Q : bc_Q) : Prop := bc_C d 141 [.inr (.inr ((0, 11), 0)), .inl a0] h Q
def bf_X_paint (d : Nat) (a0 : Int) (a1 : Int) (a2 : Int) (h : bc_H) (Q : bc_Q) : Prop := bc_C d 142 [.inr (.inr ((0, 11), 0)), .inl a0, .inl a1, .inl a2] h Q
def bf_X_scrub (d : Nat) (a0 : Int) (h : bc_H) (Q : bc_Q) : Prop := bc_C d 143 [.inr (.inr ((0, 11), 0)), .inl a0] h Q
def bf_X_come (d : Nat) (a0 : Int) (a1 : Int) (h : bc_H) (Q : bc_Q) : Prop := bc_C d 144 [.inr (.inr ((0, 11), 0)), .inl a0, .inl a1] h Q
def bf_X_draw (d : Nat) (a0 : Int) (a1 : Int) (a2 : Int) (h : bc_H) (Q : bc_Q) : Prop := bc_C d 145 [.inr (.inr ((0, 11), 0)), .inl a0, .inl a1, .inl a2] h Q
def bf_X_cover (d : Nat) (a0 : Int) (a1 : Int) (h : bc_H) (Q : bc_Q) : Prop := bc_C d 146 [.inr (.inr ((0, 11), 0)), .inl a0, .inl a1] h Q
def bf_X_rule (d : Nat) (a0 : Int) (h : bc_H) (Q : bc_Q) : Prop := bc_C d 147 [.inr (.inr ((0, 11), 0)), .inl a0] h Q
def bf_X_measureIn (d : Nat) (a0 : Int) (a1 : Int) (a2 : Int) (h : bc_H) (Q : bc_Q) : Prop := bc_C d 148 [.inr (.inr ((0, 11), 0)), .inl a0, .inl a1, .inl a2] h Q
def bf_X_whoIn (d : Nat) (a0 : Int) (a1 : Int) (h : bc_H) (Q : bc_Q) : Prop := bc_C d 149 [.inr (.inr ((0, 11), 0)), .inl a0, .inl a1] h Q
def bf_X_turnIn (d : Nat) (a0 : Int) (h : bc_H) (Q : bc_Q) : Prop := bc_C d 150 [.inr (.inr ((0, 11), 0)), .inl a0] h Q
def bf_X_freeIn (d : Nat) (h : bc_H) (Q : bc_Q) : Prop := bc_C d 151 [.inr (.inr ((0, 11), 0))] h Q
def bf_X_safe (d : Nat) (a0 : Int) (a1 : Int) (h : bc_H) (Q : bc_Q) : Prop := bc_C d 152 [.inr (.inr ((0, 11), 0)), .inl a0, .inl a1] h Q
def bf_X_far (d : Nat) (a0 : Int) (a1 : Int) (h : bc_H) (Q : bc_Q) : Prop := bc_C d 153 [.inr (.inr ((0, 11), 0)), .inl a0, .inl a1] h Q
def bf_X_near (d : Nat) (a0 : Int) (h : bc_H) (Q : bc_Q) : Prop := bc_C d 154 [.inr (.inr ((0, 11), 0)), .inl a0] h Q
def bf_X_tour (d : Nat) (a0 : Int) (a1 : Int) (a2 : Int) (h : bc_H) (Q : bc_Q) : Prop := bc_C d 155 [.inr (.inr ((0, 11), 0)), .inl a0, .inl a1, .inl a2] h Q
def bf_X_tourAt (d : Nat) (a0 : Int) (a1 : Int) (a2 : Int) (a3 : Int) (h : bc_H) (Q : bc_Q) : Prop := bc_C d 156 [.inr (.inr ((0, 11), 0)), .inl a0, .inl a1, .inl a2, .inl a3] h Q
def bf_X_layers (d : Nat) (h : bc_H) (Q : bc_Q) : Prop := bc_C d 157 [.inr (.inr ((0, 11), 0))] h Q
def bf_X_layerAt (d : Nat) (a0 : Int) (h : bc_H) (Q : bc_Q) : Prop := bc_C d 158 [.inr (.inr ((0, 11), 0)), .inl a0] h Q
def bf_X_low (d : Nat) (a0 : Int) (h : bc_H) (Q : bc_Q) : Prop := bc_C d 159 [.inr (.inr ((0, 11), 0)), .inl a0] h Q
def bf_X_hands (d : Nat) (a0 : Int) (h : bc_H) (Q : bc_Q) : Prop := bc_C d 160 [.inr (.inr ((0, 11), 0)), .inl a0] h Q
def bf_X_hand (d : Nat) (a0 : Int) (h : bc_H) (Q : bc_Q) : Prop := bc_C d 161 [.inr (.inr ((0, 11), 0)), .inl a0] h Q
def bf_X_rows (d : Nat) (a0 : Int) (h : bc_H) (Q : bc_Q) : Prop := bc_C d 162 [.inr (.inr ((0, 11), 0)), .inl a0] h Q
def bf_X_rowsTo (d : Nat) (a0 : Int) (a1 : Int) (h : bc_H) (Q : bc_Q) : Prop := bc_C d 163 [.inr (.inr ((0, 11), 0)), .inl a0, .inl a1] h Q
def bf_X_likeliest (d : Nat) (a0 : Int) (h : bc_H) (Q : bc_Q) : Prop := bc_C d 164 [.inr (.inr ((0, 11), 0)), .inl a0] h Q
def bf_X_likeliestAt (d : Nat) (a0 : Int) (a1 : Int) (h : bc_H) (Q : bc_Q) : Prop := bc_C d 165 [.inr (.inr ((0, 11), 0)), .inl a0, .inl a1] h Q
def bf_X_fits (d : Nat) (a0 : Int) (a1 : Int) (a2 : Int) (h : bc_H) (Q : bc_Q) : Prop := bc_C d 166 [.inr (.inr ((0, 11), 0)), .inl a0, .inl a1, .inl a2] h Q
def bf_X_fitsAt (d : Nat) (a0 : Int) (a1 : Int) (a2 : Int) (a3 : Int) (h : bc_H) (Q : bc_Q) : Prop := bc_C d 167 [.inr (.inr ((0, 11), 0)), .inl a0, .inl a1, .inl a2, .inl a3] h Q
def bf_X_ask (d : Nat) (a0 : Int) (a1 : Int) (a2 : Int) (h : bc_H) (Q : bc_Q) : Prop := bc_C d 168 [.inr (.inr ((0, 11), 0)), .inl a0, .inl a1, .inl a2] h Q
def bf_X_game (d : Nat) (a0 : Int) (a1 : Int) (h : bc_H) (Q : bc_Q) : Prop := bc_C d 169 [.inr (.inr ((0, 11), 0)), .inl a0, .inl a1] h Q
def bf_X_moveOf (d : Nat) (a0 : Int) (a1 : Int) (h : bc_H) (Q : bc_Q) : Prop := bc_C d 170 [.inr (.inr ((0, 11), 0)), .inl a0, .inl a1] h Q
def bf_X_flicker (d : Nat) (a0 : Int) (a1 : Int) (h : bc_H) (Q : bc_Q) : Prop := bc_C d 171 [.inr (.inr ((0, 11), 0)), .inl a0, .inl a1] h Q
def bf_X_copyMost (d : Nat) (a0 : Int) (h : bc_H) (Q : bc_Q) : Prop := bc_C d 172 [.inr (.inr ((0, 11), 0)), .inl a0] h Q
def bf_X_live (d : Nat) (a0 : Int) (h : bc_H) (Q : bc_Q) : Prop := bc_C d 173 [.inr (.inr ((0, 11), 0)), .inl a0] h Q
def bf_X_lived (d : Nat) (a0 : Int) (h : bc_H) (Q : bc_Q) : Prop := bc_C d 174 [.inr (.inr ((0, 11), 0)), .inl a0] h Q
def bf_X_mean (d : Nat) (a0 : Int) (a1 : Int) (h : bc_H) (Q : bc_Q) : Prop := bc_C d 175 [.inr (.inr ((0, 11), 0)), .inl a0, .inl a1] h Q
def bf_X_mark (d : Nat) (h : bc_H) (Q : bc_Q) : Prop := bc_C d 176 [.inr (.inr ((0, 11), 0))] h Q
def bf_X_undo (d : Nat) (h : bc_H) (Q : bc_Q) : Prop := bc_C d 177 [.inr (.inr ((0, 11), 0))] h Q
def bf_X_answer (d : Nat) (a0 : Int) (h : bc_H) (Q : bc_Q) : Prop := bc_C d 178 [.inr (.inr ((0, 11), 0)), .inl a0] h Q
def bf_X_refuse (d : Nat) (a0 : Int) (h : bc_H) (Q : bc_Q) : Prop := bc_C d 179 [.inr (.inr ((0, 11), 0)), .inl a0] h Q
def bf_X_grant (d : Nat) (h : bc_H) (Q : bc_Q) : Prop := bc_C d 180 [.inr (.inr ((0, 11), 0))] h Q
def bf_X_deny (d : Nat) (a0 : Int) (h : bc_H) (Q : bc_Q) : Prop := bc_C d 181 [.inr (.inr ((0, 11), 0)), .inl a0] h Q
def bf_X_within (d : Nat) (a0 : Int) (a1 : Int) (a2 : Int) (h : bc_H) (Q : bc_Q) : Prop := bc_C d 182 [.inl a0, .inl a1, .inl a2] h Q
def bf_X_has (d : Nat) (a0 : Int) (a1 : Int) (h : bc_H) (Q : bc_Q) : Prop := bc_C d 183 [.inl a0, .inl a1] h Q
def bf_X_isBeast (d : Nat) (a0 : Int) (h : bc_H) (Q : bc_Q) : Prop := bc_C d 184 [.inr (.inr ((0, 11), 0)), .inl a0] h Q
def bf_X_isWall (d : Nat) (a0 : Int) (h : bc_H) (Q : bc_Q) : Prop := bc_C d 185 [.inr (.inr ((0, 11), 0)), .inl a0] h Q
def bf_X_isVisitor (d : Nat) (a0 : Int) (h : bc_H) (Q : bc_Q) : Prop := bc_C d 186 [.inr (.inr ((0, 11), 0)), .inl a0] h Q
def bf_X_isFigure (d : Nat) (a0 : Int) (h : bc_H) (Q : bc_Q) : Prop := bc_C d 187 [.inr (.inr ((0, 11), 0)), .inl a0] h Q
def bf_X_statusOfPlace (d : Nat) (a0 : Int) (a1 : Int) (h : bc_H) (Q : bc_Q) : Prop := bc_C d 188 [.inr (.inr ((0, 11), 0)), .inl a0, .inl a1] h Q
def bf_X_statusOfTour (d : Nat) (a0 : Int) (a1 : Int) (a2 : Int) (h : bc_H) (Q : bc_Q) : Prop := bc_C d 189 [.inr (.inr ((0, 11), 0)), .inl a0, .inl a1, .inl a2] h Q
def bf_X_statusOfSeen (d : Nat) (a0 : Int) (a1 : Int) (a2 : Int) (h : bc_H) (Q : bc_Q) : Prop := bc_C d 190 [.inr (.inr ((0, 11), 0)), .inl a0, .inl a1, .inl a2] h Q
def bf_X_tellFraction (d : Nat) (a0 : Int) (a1 : Int) (h : bc_H) (Q : bc_Q) : Prop := bc_C d 191 [.inr (.inr ((0, 11), 0)), .inr (.inl a0), .inr (.inl a1)] h Q
def bf_X_power (d : Nat) (a0 : Int) (a1 : Int) (h : bc_H) (Q : bc_Q) : Prop := bc_C d 192 [.inl a0, .inl a1] h Q
def bf_X_choices (d : Nat) (a0 : Int) (a1 : Int) (h : bc_H) (Q : bc_Q) : Prop := bc_C d 193 [.inl a0, .inl a1] h Q
def bf_M_plain (d : Nat) (a0 : Int) (h : bc_H) (Q : bc_Q) : Prop := bc_C d 195 [.inr (.inr ((0, 12), 156)), .inl a0] h Q
def bf_M_status (d : Nat) (h : bc_H) (Q : bc_Q) : Prop := bc_C d 196 [.inr (.inr ((0, 12), 156))] h Q
def bf_M_top (d : Nat) (h : bc_H) (Q : bc_Q) : Prop := bc_C d 197 [.inr (.inr ((0, 12), 156))] h Q
def bf_M_bottom (d : Nat) (h : bc_H) (Q : bc_Q) : Prop := bc_C d 198 [.inr (.inr ((0, 12), 156))] h Q
def bf_M_is (d : Nat) (a0 : Int) (h : bc_H) (Q : bc_Q) : Prop := bc_C d 199 [.inr (.inr ((0, 12), 156)), .inl a0] h Q
def bf_M_refuse (d : Nat) (a0 : Int) (h : bc_H) (Q : bc_Q) : Prop := bc_C d 200 [.inr (.inr ((0, 12), 156)), .inl a0] h Q
def bf_M_gives (d : Nat) (a0 : Int) (h : bc_H) (Q : bc_Q) : Prop := bc_C d 201 [.inr (.inr ((0, 12), 156)), .inl a0] h Q
def bf_M_orNone (d : Nat) (a0 : Int) (h : bc_H) (Q : bc_Q) : Prop := bc_C d 202 [.inr (.inr ((0, 12), 156)), .inl a0] h Q
def bf_M_tellsBy (d : Nat) (a0 : Int) (a1 : Int) (h : bc_H) (Q : bc_Q) : Prop := bc_C d 203 [.inr (.inr ((0, 12), 156)), .inr (.inl a0), .inr (.inl a1)] h Q
def bf_M_isTray (d : Nat) (a0 : Int) (h : bc_H) (Q : bc_Q) : Prop := bc_C d 204 [.inl a0] h Q
def bf_M_cut (d : Nat) (a0 : Int) (a1 : Int) (h : bc_H) (Q : bc_Q) : Prop := bc_C d 205 [.inr (.inl a0), .inl a1] h Q
def bf_M_tray (d : Nat) (a0 : Int) (a1 : Int) (a2 : Int) (h : bc_H) (Q : bc_Q) : Prop := bc_C d 206 [.inr (.inr ((0, 12), 156)), .inl a0, .inl a1, .inl a2] h Q
def bf_M_wrongPlace (d : Nat) (a0 : Int) (a1 : Int) (h : bc_H) (Q : bc_Q) : Prop := bc_C d 207 [.inr (.inr ((0, 12), 156)), .inl a0, .inl a1] h Q
def bf_M_write (d : Nat) (a0 : Int) (a1 : Int) (a2 : Int) (h : bc_H) (Q : bc_Q) : Prop := bc_C d 208 [.inr (.inr ((0, 12), 156)), .inl a0, .inl a1, .inr (.inl a2)] h Q
def bf_M_read (d : Nat) (a0 : Int) (a1 : Int) (h : bc_H) (Q : bc_Q) : Prop := bc_C d 209 [.inr (.inr ((0, 12), 156)), .inl a0, .inl a1] h Q
def bf_M_pour (d : Nat) (a0 : Int) (a1 : Int) (a2 : Int) (a3 : Int) (a4 : Int) (h : bc_H) (Q : bc_Q) : Prop := bc_C d 210 [.inr (.inr ((0, 12), 156)), .inl a0, .inl a1, .inl a2, .inl a3, .inl a4] h Q
def bf_M_isFrom (d : Nat) (a0 : Int) (a1 : Int) (a2 : Int) (h : bc_H) (Q : bc_Q) : Prop := bc_C d 211 [.inr (.inl a0), .inr (.inl a1), .inr (.inl a2)] h Q
def bf_M_feed (d : Nat) (a0 : Int) (a1 : Int) (a2 : Int) (a3 : Int) (a4 : Int) (h : bc_H) (Q : bc_Q) : Prop := bc_C d 212 [.inr (.inr ((0, 12), 156)), .inl a0, .inl a1, .inl a2, .inl a3, .inl a4] h Q
def bf_M_four (d : Nat) (a0 : Int) (h : bc_H) (Q : bc_Q) : Prop := bc_C d 213 [.inr (.inr ((0, 12), 156)), .inl a0] h Q
def bf_M_byteAt (d : Nat) (a0 : Int) (h : bc_H) (Q : bc_Q) : Prop := bc_C d 214 [.inr (.inr ((0, 12), 156)), .inl a0] h Q
def bf_M_isSmall (d : Nat) (a0 : Int) (h : bc_H) (Q : bc_Q) : Prop := bc_C d 215 [.inl a0] h Q
def bf_M_isDigit (d : Nat) (a0 : Int) (h : bc_H) (Q : bc_Q) : Prop := bc_C d 216 [.inl a0] h Q
def bf_M_ahead (d : Nat) (h : bc_H) (Q : bc_Q) : Prop := bc_C d 217 [.inr (.inr ((0, 12), 156))] h Q
def bf_M_isSign (d : Nat) (a0 : Int) (h : bc_H) (Q : bc_Q) : Prop := bc_C d 218 [.inr (.inr ((0, 12), 156)), .inl a0] h Q
def bf_M_inWords (d : Nat) (h : bc_H) (Q : bc_Q) : Prop := bc_C d 219 [.inr (.inr ((0, 12), 156)), .inr (.inr ((8, 1), (-10)))] h Q
def bf_M_fails (d : Nat) (a0 : Int) (h : bc_H) (Q : bc_Q) : Prop := bc_C d 220 [.inr (.inr ((0, 12), 156)), .inl a0] h Q
def bf_M_begins (d : Nat) (a0 : Int) (a1 : Int) (h : bc_H) (Q : bc_Q) : Prop := bc_C d 221 [.inr (.inr ((0, 12), 156)), .inl a0, .inl a1] h Q
def bf_M_wantSign (d : Nat) (a0 : Int) (h : bc_H) (Q : bc_Q) : Prop := bc_C d 222 [.inr (.inr ((0, 12), 156)), .inl a0] h Q
def bf_M_wantWord (d : Nat) (a1 : Int) (h : bc_H) (Q : bc_Q) : Prop := bc_C d 223 [.inr (.inr ((0, 12), 156)), .inr (.inr ((8, 1), (-10))), .inl a1] h Q
def bf_M_number (d : Nat) (a0 : Int) (a1 : Int) (a2 : Int) (h : bc_H) (Q : bc_Q) : Prop := bc_C d 224 [.inr (.inr ((0, 12), 156)), .inl a0, .inl a1, .inl a2] h Q
def bf_M_isName (d : Nat) (h : bc_H) (Q : bc_Q) : Prop := bc_C d 225 [.inr (.inr ((0, 12), 156)), .inr (.inr ((8, 1), (-10)))] h Q
def bf_M_nameHere (d : Nat) (h : bc_H) (Q : bc_Q) : Prop := bc_C d 226 [.inr (.inr ((0, 12), 156))] h Q
def bf_M_findHere (d : Nat) (a0 : Int) (a1 : Int) (h : bc_H) (Q : bc_Q) : Prop := bc_C d 227 [.inr (.inr ((0, 12), 156)), .inl a0, .inl a1] h Q
def bf_M_fault (d : Nat) (a0 : Int) (h : bc_H) (Q : bc_Q) : Prop := bc_C d 228 [.inr (.inr ((0, 12), 156)), .inl a0] h Q
def bf_M_taken (d : Nat) (a0 : Int) (h : bc_H) (Q : bc_Q) : Prop := bc_C d 229 [.inr (.inr ((0, 12), 156)), .inl a0] h Q
def bf_M_wallRow (d : Nat) (a0 : Int) (h : bc_H) (Q : bc_Q) : Prop := bc_C d 230 [.inl a0] h Q
def bf_M_visitorRow (d : Nat) (a0 : Int) (h : bc_H) (Q : bc_Q) : Prop := bc_C d 231 [.inl a0] h Q
def bf_M_figureRow (d : Nat) (a0 : Int) (h : bc_H) (Q : bc_Q) : Prop := bc_C d 232 [.inl a0] h Q
def bf_M_isThere (d : Nat) (a0 : Int) (h : bc_H) (Q : bc_Q) : Prop := bc_C d 233 [.inr (.inr ((0, 12), 156)), .inl a0] h Q
def bf_M_isOld (d : Nat) (h : bc_H) (Q : bc_Q) : Prop := bc_C d 234 [.inr (.inr ((0, 12), 156))] h Q
def bf_M_newOne (d : Nat) (a0 : Int) (a1 : Int) (a2 : Int) (h : bc_H) (Q : bc_Q) : Prop := bc_C d 235 [.inr (.inr ((0, 12), 156)), .inl a0, .inl a1, .inl a2] h Q
def bf_M_oldOne (d : Nat) (a0 : Int) (a1 : Int) (a2 : Int) (h : bc_H) (Q : bc_Q) : Prop := bc_C d 236 [.inr (.inr ((0, 12), 156)), .inl a0, .inl a1, .inl a2] h Q
def bf_M_oldTwo (d : Nat) (a0 : Int) (a1 : Int) (a2 : Int) (h : bc_H) (Q : bc_Q) : Prop := bc_C d 237 [.inr (.inr ((0, 12), 156)), .inl a0, .inl a1, .inl a2] h Q
def bf_M_newBeastTo (d : Nat) (a0 : Int) (h : bc_H) (Q : bc_Q) : Prop := bc_C d 238 [.inr (.inr ((0, 12), 156)), .inl a0] h Q
def bf_M_aBeast (d : Nat) (h : bc_H) (Q : bc_Q) : Prop := bc_C d 239 [.inr (.inr ((0, 12), 156))] h Q
def bf_M_aWall (d : Nat) (h : bc_H) (Q : bc_Q) : Prop := bc_C d 240 [.inr (.inr ((0, 12), 156))] h Q
def bf_M_aWay (d : Nat) (h : bc_H) (Q : bc_Q) : Prop := bc_C d 241 [.inr (.inr ((0, 12), 156))] h Q
def bf_M_aVisitor (d : Nat) (h : bc_H) (Q : bc_Q) : Prop := bc_C d 242 [.inr (.inr ((0, 12), 156))] h Q
def bf_M_aFigure (d : Nat) (h : bc_H) (Q : bc_Q) : Prop := bc_C d 243 [.inr (.inr ((0, 12), 156))] h Q
def bf_M_anOver (d : Nat) (h : bc_H) (Q : bc_Q) : Prop := bc_C d 244 [.inr (.inr ((0, 12), 156))] h Q
def bf_M_aFollowing (d : Nat) (h : bc_H) (Q : bc_Q) : Prop := bc_C d 245 [.inr (.inr ((0, 12), 156))] h Q
def bf_M_cavePart (d : Nat) (h : bc_H) (Q : bc_Q) : Prop := bc_C d 246 [.inr (.inr ((0, 12), 156))] h Q
def bf_M_cave (d : Nat) (a0 : Int) (h : bc_H) (Q : bc_Q) : Prop := bc_C d 247 [.inr (.inr ((0, 12), 156)), .inl a0] h Q
def bf_M_visitorTo (d : Nat) (a0 : Int) (h : bc_H) (Q : bc_Q) : Prop := bc_C d 248 [.inr (.inr ((0, 12), 156)), .inl a0] h Q
def bf_M_wallTo (d : Nat) (a0 : Int) (h : bc_H) (Q : bc_Q) : Prop := bc_C d 249 [.inr (.inr ((0, 12), 156)), .inl a0] h Q
def bf_M_test (d : Nat) (a0 : Int) (h : bc_H) (Q : bc_Q) : Prop := bc_C d 250 [.inr (.inr ((0, 12), 156)), .inl a0] h Q
def bf_M_dayOrder (d : Nat) (a0 : Int) (a1 : Int) (h : bc_H) (Q : bc_Q) : Prop := bc_C d 251 [.inr (.inr ((0, 12), 156)), .inl a0, .inl a1] h Q
def bf_M_dayStep (d : Nat) (h : bc_H) (Q : bc_Q) : Prop := bc_C d 252 [.inr (.inr ((0, 12), 156))] h Q
def bf_M_days (d : Nat) (a0 : Int) (h : bc_H) (Q : bc_Q) : Prop := bc_C d 253 [.inr (.inr ((0, 12), 156)), .inl a0] h Q
def bf_M_isBeast (d : Nat) (a0 : Int) (h : bc_H) (Q : bc_Q) : Prop := bc_C d 254 [.inr (.inr ((0, 12), 156)), .inl a0] h Q
def bf_M_isWall (d : Nat) (a0 : Int) (h : bc_H) (Q : bc_Q) : Prop := bc_C d 255 [.inr (.inr ((0, 12), 156)), .inl a0] h Q
def bf_M_isVisitor (d : Nat) (a0 : Int) (h : bc_H) (Q : bc_Q) : Prop := bc_C d 256 [.inr (.inr ((0, 12), 156)), .inl a0] h Q
def bf_M_isFigure (d : Nat) (a0 : Int) (h : bc_H) (Q : bc_Q) : Prop := bc_C d 257 [.inr (.inr ((0, 12), 156)), .inl a0] h Q
def bf_M_isIn (d : Nat) (a0 : Int) (a1 : Int) (h : bc_H) (Q : bc_Q) : Prop := bc_C d 258 [.inr (.inr ((0, 12), 156)), .inl a0, .inl a1] h Q
def bf_M_bits (d : Nat) (a0 : Int) (h : bc_H) (Q : bc_Q) : Prop := bc_C d 259 [.inl a0] h Q
def bf_M_wallOf (d : Nat) (a0 : Int) (a1 : Int) (h : bc_H) (Q : bc_Q) : Prop := bc_C d 260 [.inr (.inr ((0, 12), 156)), .inl a0, .inl a1] h Q
def bf_M_visitorOf (d : Nat) (a0 : Int) (a1 : Int) (h : bc_H) (Q : bc_Q) : Prop := bc_C d 261 [.inr (.inr ((0, 12), 156)), .inl a0, .inl a1] h Q
def bf_M_figureOf (d : Nat) (a0 : Int) (a1 : Int) (h : bc_H) (Q : bc_Q) : Prop := bc_C d 262 [.inr (.inr ((0, 12), 156)), .inl a0, .inl a1] h Q
def bf_M_weightOf (d : Nat) (a0 : Int) (a1 : Int) (h : bc_H) (Q : bc_Q) : Prop := bc_C d 263 [.inr (.inr ((0, 12), 156)), .inl a0, .inl a1] h Q
def bf_M_greatestOf (d : Nat) (a0 : Int) (h : bc_H) (Q : bc_Q) : Prop := bc_C d 264 [.inr (.inr ((0, 12), 156)), .inl a0] h Q
def bf_M_mostOf (d : Nat) (a0 : Int) (h : bc_H) (Q : bc_Q) : Prop := bc_C d 265 [.inr (.inr ((0, 12), 156)), .inl a0] h Q
def bf_M_isTurned (d : Nat) (a0 : Int) (h : bc_H) (Q : bc_Q) : Prop := bc_C d 266 [.inr (.inr ((0, 12), 156)), .inl a0] h Q
def bf_M_whoIs (d : Nat) (a0 : Int) (h : bc_H) (Q : bc_Q) : Prop := bc_C d 267 [.inr (.inr ((0, 12), 156)), .inl a0] h Q
def bf_M_bareOnes (d : Nat) (h : bc_H) (Q : bc_Q) : Prop := bc_C d 268 [.inr (.inr ((0, 12), 156))] h Q
def bf_M_visitorsThat (d : Nat) (a0 : Int) (h : bc_H) (Q : bc_Q) : Prop := bc_C d 269 [.inr (.inr ((0, 12), 156)), .inl a0] h Q
def bf_M_told (d : Nat) (a0 : Int) (h : bc_H) (Q : bc_Q) : Prop := bc_C d 270 [.inr (.inr ((0, 12), 156)), .inl a0] h Q
def bf_M_wall (d : Nat) (a0 : Int) (a1 : Int) (h : bc_H) (Q : bc_Q) : Prop := bc_C d 271 [.inr (.inr ((0, 12), 156)), .inl a0, .inl a1] h Q
def bf_M_visitor (d : Nat) (a0 : Int) (a1 : Int) (h : bc_H) (Q : bc_Q) : Prop := bc_C d 272 [.inr (.inr ((0, 12), 156)), .inl a0, .inl a1] h Q
def bf_M_measure (d : Nat) (a0 : Int) (a1 : Int) (h : bc_H) (Q : bc_Q) : Prop := bc_C d 273 [.inr (.inr ((0, 12), 156)), .inl a0, .inl a1] h Q
def bf_M_who (d : Nat) (a0 : Int) (h : bc_H) (Q : bc_Q) : Prop := bc_C d 274 [.inr (.inr ((0, 12), 156)), .inl a0] h Q
def bf_M_figure (d : Nat) (a0 : Int) (a1 : Int) (h : bc_H) (Q : bc_Q) : Prop := bc_C d 275 [.inr (.inr ((0, 12), 156)), .inl a0, .inl a1] h Q
def bf_M_weight (d : Nat) (a0 : Int) (a1 : Int) (h : bc_H) (Q : bc_Q) : Prop := bc_C d 276 [.inr (.inr ((0, 12), 156)), .inl a0, .inl a1] h Q
def bf_M_looksAt (d : Nat) (a0 : Int) (a1 : Int) (h : bc_H) (Q : bc_Q) : Prop := bc_C d 277 [.inr (.inr ((0, 12), 156)), .inl a0, .inl a1] h Q
def bf_M_minuteGoes (d : Nat) (h : bc_H) (Q : bc_Q) : Prop := bc_C d 278 [.inr (.inr ((0, 12), 156))] h Q
def bf_M_minutesGo (d : Nat) (a0 : Int) (h : bc_H) (Q : bc_Q) : Prop := bc_C d 279 [.inr (.inr ((0, 12), 156)), .inl a0] h Q
def bf_M_minute (d : Nat) (a0 : Int) (h : bc_H) (Q : bc_Q) : Prop := bc_C d 280 [.inr (.inr ((0, 12), 156)), .inl a0] h Q
def bf_M_wayOf (d : Nat) (a0 : Int) (a1 : Int) (h : bc_H) (Q : bc_Q) : Prop := bc_C d 281 [.inr (.inr ((0, 12), 156)), .inl a0, .inl a1] h Q
def bf_M_leads (d : Nat) (a0 : Int) (a1 : Int) (h : bc_H) (Q : bc_Q) : Prop := bc_C d 282 [.inr (.inr ((0, 12), 156)), .inl a0, .inl a1] h Q
def bf_M_lead (d : Nat) (a0 : Int) (a1 : Int) (h : bc_H) (Q : bc_Q) : Prop := bc_C d 283 [.inr (.inr ((0, 12), 156)), .inl a0, .inl a1] h Q
def bf_M_wakes (d : Nat) (a0 : Int) (h : bc_H) (Q : bc_Q) : Prop := bc_C d 284 [.inr (.inr ((0, 12), 156)), .inl a0] h Q
def bf_M_wake (d : Nat) (a0 : Int) (h : bc_H) (Q : bc_Q) : Prop := bc_C d 285 [.inr (.inr ((0, 12), 156)), .inl a0] h Q
def bf_M_fills (d : Nat) (a0 : Int) (h : bc_H) (Q : bc_Q) : Prop := bc_C d 286 [.inr (.inr ((0, 12), 156)), .inl a0] h Q
def bf_M_fill (d : Nat) (a0 : Int) (h : bc_H) (Q : bc_Q) : Prop := bc_C d 287 [.inr (.inr ((0, 12), 156)), .inl a0] h Q
def bf_M_paint (d : Nat) (a0 : Int) (a1 : Int) (a2 : Int) (h : bc_H) (Q : bc_Q) : Prop := bc_C d 288 [.inr (.inr ((0, 12), 156)), .inl a0, .inl a1, .inl a2] h Q
def bf_M_scrub (d : Nat) (a0 : Int) (h : bc_H) (Q : bc_Q) : Prop := bc_C d 289 [.inr (.inr ((0, 12), 156)), .inl a0] h Q
def bf_M_come (d : Nat) (a0 : Int) (a1 : Int) (h : bc_H) (Q : bc_Q) : Prop := bc_C d 290 [.inr (.inr ((0, 12), 156)), .inl a0, .inl a1] h Q
def bf_M_draw (d : Nat) (a0 : Int) (a1 : Int) (a2 : Int) (h : bc_H) (Q : bc_Q) : Prop := bc_C d 291 [.inr (.inr ((0, 12), 156)), .inl a0, .inl a1, .inl a2] h Q
def bf_M_cover (d : Nat) (a0 : Int) (a1 : Int) (h : bc_H) (Q : bc_Q) : Prop := bc_C d 292 [.inr (.inr ((0, 12), 156)), .inl a0, .inl a1] h Q
def bf_M_rule (d : Nat) (a0 : Int) (h : bc_H) (Q : bc_Q) : Prop := bc_C d 293 [.inr (.inr ((0, 12), 156)), .inl a0] h Q
def bf_M_levelAt (d : Nat) (a0 : Int) (h : bc_H) (Q : bc_Q) : Prop := bc_C d 294 [.inl a0] h Q
def bf_M_keeps (d : Nat) (a0 : Int) (h : bc_H) (Q : bc_Q) : Prop := bc_C d 295 [.inr (.inr ((0, 12), 156)), .inl a0] h Q
def bf_M_restores (d : Nat) (a0 : Int) (h : bc_H) (Q : bc_Q) : Prop := bc_C d 296 [.inr (.inr ((0, 12), 156)), .inl a0] h Q
def bf_M_isSpan (d : Nat) (a0 : Int) (h : bc_H) (Q : bc_Q) : Prop := bc_C d 297 [.inl a0] h Q
def bf_M_measureIn (d : Nat) (a0 : Int) (a1 : Int) (a2 : Int) (h : bc_H) (Q : bc_Q) : Prop := bc_C d 298 [.inr (.inr ((0, 12), 156)), .inl a0, .inl a1, .inl a2] h Q
def bf_M_whoIn (d : Nat) (a0 : Int) (a1 : Int) (h : bc_H) (Q : bc_Q) : Prop := bc_C d 299 [.inr (.inr ((0, 12), 156)), .inl a0, .inl a1] h Q
def bf_M_turnIn (d : Nat) (a0 : Int) (h : bc_H) (Q : bc_Q) : Prop := bc_C d 300 [.inr (.inr ((0, 12), 156)), .inl a0] h Q
def bf_M_freeIn (d : Nat) (h : bc_H) (Q : bc_Q) : Prop := bc_C d 301 [.inr (.inr ((0, 12), 156))] h Q
def bf_M_safe (d : Nat) (a0 : Int) (a1 : Int) (h : bc_H) (Q : bc_Q) : Prop := bc_C d 302 [.inr (.inr ((0, 12), 156)), .inl a0, .inl a1] h Q
def bf_M_laysFar (d : Nat) (h : bc_H) (Q : bc_Q) : Prop := bc_C d 303 [.inr (.inr ((0, 12), 156))] h Q
def bf_M_far (d : Nat) (a0 : Int) (a1 : Int) (h : bc_H) (Q : bc_Q) : Prop := bc_C d 304 [.inr (.inr ((0, 12), 156)), .inl a0, .inl a1] h Q
def bf_M_near (d : Nat) (a0 : Int) (h : bc_H) (Q : bc_Q) : Prop := bc_C d 305 [.inr (.inr ((0, 12), 156)), .inl a0] h Q
def bf_M_visits (d : Nat) (a0 : Int) (a1 : Int) (a2 : Int) (h : bc_H) (Q : bc_Q) : Prop := bc_C d 306 [.inr (.inr ((0, 12), 156)), .inl a0, .inl a1, .inl a2] h Q
def bf_M_isTried (d : Nat) (a0 : Int) (h : bc_H) (Q : bc_Q) : Prop := bc_C d 307 [.inr (.inr ((0, 12), 156)), .inl a0] h Q
def bf_M_laysTour (d : Nat) (a0 : Int) (a1 : Int) (a2 : Int) (h : bc_H) (Q : bc_Q) : Prop := bc_C d 308 [.inr (.inr ((0, 12), 156)), .inl a0, .inl a1, .inl a2] h Q
def bf_M_wrongTour (d : Nat) (a0 : Int) (a1 : Int) (a2 : Int) (h : bc_H) (Q : bc_Q) : Prop := bc_C d 309 [.inr (.inr ((0, 12), 156)), .inl a0, .inl a1, .inl a2] h Q
def bf_M_tour (d : Nat) (a0 : Int) (a1 : Int) (a2 : Int) (h : bc_H) (Q : bc_Q) : Prop := bc_C d 310 [.inr (.inr ((0, 12), 156)), .inl a0, .inl a1, .inl a2] h Q
def bf_M_tourAt (d : Nat) (a0 : Int) (a1 : Int) (a2 : Int) (a3 : Int) (h : bc_H) (Q : bc_Q) : Prop := bc_C d 311 [.inr (.inr ((0, 12), 156)), .inl a0, .inl a1, .inl a2, .inl a3] h Q
def bf_M_mayCome (d : Nat) (a0 : Int) (a1 : Int) (h : bc_H) (Q : bc_Q) : Prop := bc_C d 312 [.inr (.inr ((0, 12), 156)), .inl a0, .inl a1] h Q
def bf_M_laysLayers (d : Nat) (h : bc_H) (Q : bc_Q) : Prop := bc_C d 313 [.inr (.inr ((0, 12), 156))] h Q
def bf_M_layers (d : Nat) (h : bc_H) (Q : bc_Q) : Prop := bc_C d 314 [.inr (.inr ((0, 12), 156))] h Q
def bf_M_layerAt (d : Nat) (a0 : Int) (h : bc_H) (Q : bc_Q) : Prop := bc_C d 315 [.inr (.inr ((0, 12), 156)), .inl a0] h Q
def bf_M_low (d : Nat) (a0 : Int) (h : bc_H) (Q : bc_Q) : Prop := bc_C d 316 [.inr (.inr ((0, 12), 156)), .inl a0] h Q
def bf_M_differ (d : Nat) (a0 : Int) (a1 : Int) (h : bc_H) (Q : bc_Q) : Prop := bc_C d 317 [.inr (.inr ((0, 12), 156)), .inl a0, .inl a1] h Q
def bf_M_isHand (d : Nat) (a0 : Int) (a1 : Int) (h : bc_H) (Q : bc_Q) : Prop := bc_C d 318 [.inr (.inr ((0, 12), 156)), .inl a0, .inl a1] h Q
def bf_M_hands (d : Nat) (a0 : Int) (h : bc_H) (Q : bc_Q) : Prop := bc_C d 319 [.inr (.inr ((0, 12), 156)), .inl a0] h Q
def bf_M_hand (d : Nat) (a0 : Int) (h : bc_H) (Q : bc_Q) : Prop := bc_C d 320 [.inr (.inr ((0, 12), 156)), .inl a0] h Q
def bf_M_laysRows (d : Nat) (a0 : Int) (h : bc_H) (Q : bc_Q) : Prop := bc_C d 321 [.inr (.inr ((0, 12), 156)), .inl a0] h Q
def bf_M_rows (d : Nat) (a0 : Int) (h : bc_H) (Q : bc_Q) : Prop := bc_C d 322 [.inr (.inr ((0, 12), 156)), .inl a0] h Q
def bf_M_rowsTo (d : Nat) (a0 : Int) (a1 : Int) (h : bc_H) (Q : bc_Q) : Prop := bc_C d 323 [.inr (.inr ((0, 12), 156)), .inl a0, .inl a1] h Q
def bf_M_laysLikeliest (d : Nat) (a0 : Int) (h : bc_H) (Q : bc_Q) : Prop := bc_C d 324 [.inr (.inr ((0, 12), 156)), .inl a0] h Q
def bf_M_likeliest (d : Nat) (a0 : Int) (h : bc_H) (Q : bc_Q) : Prop := bc_C d 325 [.inr (.inr ((0, 12), 156)), .inl a0] h Q
def bf_M_likeliestAt (d : Nat) (a0 : Int) (a1 : Int) (h : bc_H) (Q : bc_Q) : Prop := bc_C d 326 [.inr (.inr ((0, 12), 156)), .inl a0, .inl a1] h Q
def bf_M_wrongSeen (d : Nat) (a0 : Int) (a1 : Int) (a2 : Int) (h : bc_H) (Q : bc_Q) : Prop := bc_C d 327 [.inr (.inr ((0, 12), 156)), .inl a0, .inl a1, .inl a2] h Q
def bf_M_wouldBe (d : Nat) (a0 : Int) (a1 : Int) (h : bc_H) (Q : bc_Q) : Prop := bc_C d 328 [.inr (.inr ((0, 12), 156)), .inl a0, .inl a1] h Q
def bf_M_laysFits (d : Nat) (a0 : Int) (a1 : Int) (a2 : Int) (h : bc_H) (Q : bc_Q) : Prop := bc_C d 329 [.inr (.inr ((0, 12), 156)), .inl a0, .inl a1, .inl a2] h Q
def bf_M_fits (d : Nat) (a0 : Int) (a1 : Int) (a2 : Int) (h : bc_H) (Q : bc_Q) : Prop := bc_C d 330 [.inr (.inr ((0, 12), 156)), .inl a0, .inl a1, .inl a2] h Q
def bf_M_fitsAt (d : Nat) (a0 : Int) (a1 : Int) (a2 : Int) (a3 : Int) (h : bc_H) (Q : bc_Q) : Prop := bc_C d 331 [.inr (.inr ((0, 12), 156)), .inl a0, .inl a1, .inl a2, .inl a3] h Q
def bf_M_mostAlike (d : Nat) (a0 : Int) (h : bc_H) (Q : bc_Q) : Prop := bc_C d 332 [.inr (.inr ((0, 12), 156)), .inl a0] h Q
def bf_M_ask (d : Nat) (a0 : Int) (a1 : Int) (a2 : Int) (h : bc_H) (Q : bc_Q) : Prop := bc_C d 333 [.inr (.inr ((0, 12), 156)), .inl a0, .inl a1, .inl a2] h Q
def bf_M_settles (d : Nat) (a0 : Int) (a1 : Int) (h : bc_H) (Q : bc_Q) : Prop := bc_C d 334 [.inr (.inr ((0, 12), 156)), .inl a0, .inl a1] h Q
def bf_M_doesDeed (d : Nat) (a0 : Int) (a1 : Int) (a2 : Int) (h : bc_H) (Q : bc_Q) : Prop := bc_C d 335 [.inr (.inr ((0, 12), 156)), .inl a0, .inl a1, .inl a2] h Q
def bf_M_standing (d : Nat) (a0 : Int) (h : bc_H) (Q : bc_Q) : Prop := bc_C d 336 [.inr (.inr ((0, 12), 156)), .inl a0] h Q
def bf_M_playing (d : Nat) (a0 : Int) (a1 : Int) (h : bc_H) (Q : bc_Q) : Prop := bc_C d 337 [.inr (.inr ((0, 12), 156)), .inl a0, .inl a1] h Q
def bf_M_game (d : Nat) (a0 : Int) (a1 : Int) (h : bc_H) (Q : bc_Q) : Prop := bc_C d 338 [.inr (.inr ((0, 12), 156)), .inl a0, .inl a1] h Q
def bf_M_moveOf (d : Nat) (a0 : Int) (a1 : Int) (h : bc_H) (Q : bc_Q) : Prop := bc_C d 339 [.inr (.inr ((0, 12), 156)), .inl a0, .inl a1] h Q
def bf_M_flicker (d : Nat) (a0 : Int) (a1 : Int) (h : bc_H) (Q : bc_Q) : Prop := bc_C d 340 [.inr (.inr ((0, 12), 156)), .inl a0, .inl a1] h Q
def bf_M_copyMost (d : Nat) (a0 : Int) (h : bc_H) (Q : bc_Q) : Prop := bc_C d 341 [.inr (.inr ((0, 12), 156)), .inl a0] h Q
def bf_M_drawing (d : Nat) (a0 : Int) (h : bc_H) (Q : bc_Q) : Prop := bc_C d 342 [.inr (.inr ((0, 12), 156)), .inl a0] h Q
def bf_M_minutesBy (d : Nat) (a0 : Int) (h : bc_H) (Q : bc_Q) : Prop := bc_C d 343 [.inr (.inr ((0, 12), 156)), .inl a0] h Q
def bf_M_leadsBy (d : Nat) (a0 : Int) (a1 : Int) (h : bc_H) (Q : bc_Q) : Prop := bc_C d 344 [.inr (.inr ((0, 12), 156)), .inl a0, .inl a1] h Q
def bf_M_leadsAny (d : Nat) (h : bc_H) (Q : bc_Q) : Prop := bc_C d 345 [.inr (.inr ((0, 12), 156))] h Q
def bf_M_does (d : Nat) (a0 : Int) (h : bc_H) (Q : bc_Q) : Prop := bc_C d 346 [.inr (.inr ((0, 12), 156)), .inl a0] h Q
def bf_M_holds (d : Nat) (a0 : Int) (h : bc_H) (Q : bc_Q) : Prop := bc_C d 347 [.inr (.inr ((0, 12), 156)), .inl a0] h Q
def bf_M_behindEnds (d : Nat) (a0 : Int) (h : bc_H) (Q : bc_Q) : Prop := bc_C d 348 [.inr (.inr ((0, 12), 156)), .inl a0] h Q
def bf_M_lives (d : Nat) (a0 : Int) (h : bc_H) (Q : bc_Q) : Prop := bc_C d 349 [.inr (.inr ((0, 12), 156)), .inl a0] h Q
def bf_M_live (d : Nat) (a0 : Int) (h : bc_H) (Q : bc_Q) : Prop := bc_C d 350 [.inr (.inr ((0, 12), 156)), .inl a0] h Q
def bf_M_lived (d : Nat) (a0 : Int) (h : bc_H) (Q : bc_Q) : Prop := bc_C d 351 [.inr (.inr ((0, 12), 156)), .inl a0] h Q
def bf_M_mean (d : Nat) (a0 : Int) (a1 : Int) (h : bc_H) (Q : bc_Q) : Prop := bc_C d 352 [.inr (.inr ((0, 12), 156)), .inl a0, .inl a1] h Q
def bf_M_copies (d : Nat) (a0 : Int) (a1 : Int) (h : bc_H) (Q : bc_Q) : Prop := bc_C d 353 [.inr (.inr ((0, 12), 156)), .inl a0, .inl a1] h Q
def bf_M_mark (d : Nat) (h : bc_H) (Q : bc_Q) : Prop := bc_C d 354 [.inr (.inr ((0, 12), 156))] h Q
def bf_M_undo (d : Nat) (h : bc_H) (Q : bc_Q) : Prop := bc_C d 355 [.inr (.inr ((0, 12), 156))] h Q
def bf_JInteger_bitCount (d : Nat) (a0 : Int) (h : bc_H) (Q : bc_Q) : Prop := bc_C d 356 [.inl a0] h Q
def bf_JLong_bitCount (d : Nat) (a0 : Int) (h : bc_H) (Q : bc_Q) : Prop := bc_C d 357 [.inr (.inl a0)] h Q
def bf_JArrays_fill (d : Nat) (m0 : Nat) (r0 : Int) (a1 : Int) (h : bc_H) (Q : bc_Q) : Prop := bc_C d 361 [.inr (.inr ((1, m0), r0)), .inl a1] h Q
theorem rv_X_within {d : Nat} {a0 : Int} {a1 : Int} {a2 : Int} {h : bc_H} {A B : bc_H → Prop} (H : ((a1 ≤ a0) ∧ (a0 ≤ a2) → (A h)) ∧ (¬ ((a1 ≤ a0) ∧ (a0 ≤ a2)) → (B h))) : bf_X_within d a0 a1 a2 h (bc_B A B) := (bc_gx [some (.inl a0), some (.inl a1), some (.inl a2)] [] h _ rfl (bc_let (p := ((a1 ≤ a0) ∧ (a0 ≤ a2)) → bc_OK true d 182 9 185 [some (.inl a0), some (.inl a1), some (.inl a2)] [.inl 1] h 185 (bc_B A B)) (fun z1 => (bc_gx [some (.inl a0), some (.inl a1), some (.inl a2)] [.inl 1] h _ rfl (And.intro (Or.inr rfl) (Or.inl (And.intro rfl (H.1 z1)))))) (fun j2 => bc_let (p := ¬ ((a1 ≤ a0) ∧ (a0 ≤ a2)) → bc_OK true d 182 9 185 [some (.inl a0), some (.inl a1), some (.inl a2)] [.inl 0] h 185 (bc_B A B)) (fun z1 => (bc_gx [some (.inl a0), some (.inl a1), some (.inl a2)] [.inl 0] h _ rfl (And.intro (Or.inl rfl) (Or.inr (And.intro rfl (H.2 z1)))))) (fun j3 => (And.intro (fun (z4 : a0 < a1) => (bc_gx [some (.inl a0), some (.inl a1), some (.inl a2)] [] h _ rfl (bc_un (j3 (by omega)) :))) (fun (z4 : a1 ≤ a0) => (And.intro (fun (z5 : a2 < a0) => (bc_gx [some (.inl a0), some (.inl a1), some (.inl a2)] [] h _ rfl (bc_un (j3 (by omega)) :))) (fun (z5 : a0 ≤ a2) => (j2 (by omega))))))))))
theorem sb_X_within {d : Nat} {a0 : Int} {a1 : Int} {a2 : Int} {h : bc_H} {A B : bc_H → Prop} (H : (a1 ≤ a0 ∧ a0 ≤ a2 → A h) ∧ (¬ (a1 ≤ a0 ∧ a0 ≤ a2) → B h)) : bf_X_within d a0 a1 a2 h (bc_B A B) := by
  refine rv_X_within ?_
  (repeat' (first | apply And.intro | intro _)) <;> first | exact H.1 (by omega) | exact H.2 (by omega)
theorem rv_X_has {d : Nat} {a0 : Int} {a1 : Int} {h : bc_H} {A B : bc_H → Prop} (H : ((bc_and (bc_shr a0 a1) 1) ≠ 0 → (A h)) ∧ (¬ ((bc_and (bc_shr a0 a1) 1) ≠ 0) → (B h))) : bf_X_has d a0 a1 h (bc_B A B) := (bc_gx [some (.inl a0), some (.inl a1)] [] h _ rfl (bc_let (p := ((bc_and (bc_shr a0 a1) 1) ≠ 0) → bc_OK true d 183 9 185 [some (.inl a0), some (.inl a1)] [.inl 1] h 185 (bc_B A B)) (fun z1 => (bc_gx [some (.inl a0), some (.inl a1)] [.inl 1] h _ rfl (And.intro (Or.inr rfl) (Or.inl (And.intro rfl (H.1 z1)))))) (fun j2 => bc_let (p := ¬ ((bc_and (bc_shr a0 a1) 1) ≠ 0) → bc_OK true d 183 9 185 [some (.inl a0), some (.inl a1)] [.inl 0] h 185 (bc_B A B)) (fun z1 => (bc_gx [some (.inl a0), some (.inl a1)] [.inl 0] h _ rfl (And.intro (Or.inl rfl) (Or.inr (And.intro rfl (H.2 z1)))))) (fun j3 => (And.intro (fun (z4 : (bc_and (bc_shr a0 a1) 1) = 0) => (bc_gx [some (.inl a0), some (.inl a1)] [] h _ rfl (bc_un (j3 (by omega)) :))) (fun (z4 : (bc_and (bc_shr a0 a1) 1) ≠ 0) => (j2 (by omega))))))))
theorem sb_X_has {d : Nat} {a0 : Int} {a1 : Int} {h : bc_H} {A B : bc_H → Prop} (H : (bc_and (bc_shr a0 a1) 1 ≠ 0 → A h) ∧ (¬ (bc_and (bc_shr a0 a1) 1 ≠ 0) → B h)) : bf_X_has d a0 a1 h (bc_B A B) := by
  refine rv_X_has ?_
  (repeat' (first | apply And.intro | intro _)) <;> first | exact H.1 (by omega) | exact H.2 (by omega)
theorem rv_M_isTray {d : Nat} {a0 : Int} {h : bc_H} {A B : bc_H → Prop} (H : ((0 ≤ a0) ∧ (a0 < 4) → (A h)) ∧ (¬ ((0 ≤ a0) ∧ (a0 < 4)) → (B h))) : bf_M_isTray d a0 h (bc_B A B) := (bc_gx [some (.inl a0)] [] h _ rfl (bc_let (p := ((0 ≤ a0) ∧ (a0 < 4)) → bc_OK true d 204 8 185 [some (.inl a0)] [.inl 1] h 185 (bc_B A B)) (fun z1 => (bc_gx [some (.inl a0)] [.inl 1] h _ rfl (And.intro (Or.inr rfl) (Or.inl (And.intro rfl (H.1 z1)))))) (fun j2 => bc_let (p := ¬ ((0 ≤ a0) ∧ (a0 < 4)) → bc_OK true d 204 8 185 [some (.inl a0)] [.inl 0] h 185 (bc_B A B)) (fun z1 => (bc_gx [some (.inl a0)] [.inl 0] h _ rfl (And.intro (Or.inl rfl) (Or.inr (And.intro rfl (H.2 z1)))))) (fun j3 => (And.intro (fun (z4 : a0 < 0) => (bc_gx [some (.inl a0)] [] h _ rfl (bc_un (j3 (by omega)) :))) (fun (z4 : 0 ≤ a0) => (And.intro (fun (z5 : 4 ≤ a0) => (bc_gx [some (.inl a0)] [] h _ rfl (bc_un (j3 (by omega)) :))) (fun (z5 : a0 < 4) => (j2 (by omega))))))))))
theorem sb_M_isTray {d : Nat} {a0 : Int} {h : bc_H} {A B : bc_H → Prop} (H : (0 ≤ a0 ∧ a0 < 4 → A h) ∧ (¬ (0 ≤ a0 ∧ a0 < 4) → B h)) : bf_M_isTray d a0 h (bc_B A B) := by
  refine rv_M_isTray ?_
  (repeat' (first | apply And.intro | intro _)) <;> first | exact H.1 (by omega) | exact H.2 (by omega)
theorem rv_M_isFrom {d : Nat} {a0 : Int} {a1 : Int} {a2 : Int} {h : bc_H} {A B : bc_H → Prop} (H : (a0 < a1 → (B h)) ∧ (a1 ≤ a0 → ((a2 < a0 → (B h)) ∧ (a0 ≤ a2 → (A h))))) : bf_M_isFrom d a0 a1 a2 h (bc_B A B) := (bc_gx [some (.inr (.inl a0)), none, some (.inr (.inl a1)), none, some (.inr (.inl a2)), none] [] h _ rfl (And.intro (fun z1 => (bc_gx [some (.inr (.inl a0)), none, some (.inr (.inl a1)), none, some (.inr (.inl a2)), none] [] h _ rfl (And.intro (Or.inl rfl) (Or.inr (And.intro rfl (H.1 (bc_lcy z1))))))) (fun z1 => (And.intro (fun z2 => (bc_gx [some (.inr (.inl a0)), none, some (.inr (.inl a1)), none, some (.inr (.inl a2)), none] [] h _ rfl (And.intro (Or.inl rfl) (Or.inr (And.intro rfl ((H.2 (bc_lcn z1)).1 (bc_lcy z2))))))) (fun z2 => (bc_gx [some (.inr (.inl a0)), none, some (.inr (.inl a1)), none, some (.inr (.inl a2)), none] [.inl 1] h _ rfl (And.intro (Or.inr rfl) (Or.inl (And.intro rfl ((H.2 (bc_lcn z1)).2 (bc_lcn z2)))))))))))
theorem sb_M_isFrom {d : Nat} {a0 : Int} {a1 : Int} {a2 : Int} {h : bc_H} {A B : bc_H → Prop} (H : (a1 ≤ a0 ∧ a0 ≤ a2 → A h) ∧ (¬ (a1 ≤ a0 ∧ a0 ≤ a2) → B h)) : bf_M_isFrom d a0 a1 a2 h (bc_B A B) := by
  refine rv_M_isFrom ?_
  (repeat' (first | apply And.intro | intro _)) <;> first | exact H.1 (by omega) | exact H.2 (by omega)
theorem rv_M_isSmall {d : Nat} {a0 : Int} {h : bc_H} {A B : bc_H → Prop} (H : ((97 ≤ a0) ∧ (a0 ≤ 122) → (A h)) ∧ (¬ ((97 ≤ a0) ∧ (a0 ≤ 122)) → (B h))) : bf_M_isSmall d a0 h (bc_B A B) := (bc_gx [some (.inl a0)] [] h _ rfl (bc_let (p := ((97 ≤ a0) ∧ (a0 ≤ 122)) → bc_OK true d 215 9 185 [some (.inl a0)] [.inl 1] h 185 (bc_B A B)) (fun z1 => (bc_gx [some (.inl a0)] [.inl 1] h _ rfl (And.intro (Or.inr rfl) (Or.inl (And.intro rfl (H.1 z1)))))) (fun j2 => bc_let (p := ¬ ((97 ≤ a0) ∧ (a0 ≤ 122)) → bc_OK true d 215 9 185 [some (.inl a0)] [.inl 0] h 185 (bc_B A B)) (fun z1 => (bc_gx [some (.inl a0)] [.inl 0] h _ rfl (And.intro (Or.inl rfl) (Or.inr (And.intro rfl (H.2 z1)))))) (fun j3 => (And.intro (fun (z4 : a0 < 97) => (bc_gx [some (.inl a0)] [] h _ rfl (bc_un (j3 (by omega)) :))) (fun (z4 : 97 ≤ a0) => (And.intro (fun (z5 : 122 < a0) => (bc_gx [some (.inl a0)] [] h _ rfl (bc_un (j3 (by omega)) :))) (fun (z5 : a0 ≤ 122) => (j2 (by omega))))))))))
theorem sb_M_isSmall {d : Nat} {a0 : Int} {h : bc_H} {A B : bc_H → Prop} (H : (97 ≤ a0 ∧ a0 ≤ 122 → A h) ∧ (¬ (97 ≤ a0 ∧ a0 ≤ 122) → B h)) : bf_M_isSmall d a0 h (bc_B A B) := by
  refine rv_M_isSmall ?_
  (repeat' (first | apply And.intro | intro _)) <;> first | exact H.1 (by omega) | exact H.2 (by omega)
theorem rv_M_isDigit {d : Nat} {a0 : Int} {h : bc_H} {A B : bc_H → Prop} (H : ((48 ≤ a0) ∧ (a0 ≤ 57) → (A h)) ∧ (¬ ((48 ≤ a0) ∧ (a0 ≤ 57)) → (B h))) : bf_M_isDigit d a0 h (bc_B A B) := (bc_gx [some (.inl a0)] [] h _ rfl (bc_let (p := ((48 ≤ a0) ∧ (a0 ≤ 57)) → bc_OK true d 216 9 185 [some (.inl a0)] [.inl 1] h 185 (bc_B A B)) (fun z1 => (bc_gx [some (.inl a0)] [.inl 1] h _ rfl (And.intro (Or.inr rfl) (Or.inl (And.intro rfl (H.1 z1)))))) (fun j2 => bc_let (p := ¬ ((48 ≤ a0) ∧ (a0 ≤ 57)) → bc_OK true d 216 9 185 [some (.inl a0)] [.inl 0] h 185 (bc_B A B)) (fun z1 => (bc_gx [some (.inl a0)] [.inl 0] h _ rfl (And.intro (Or.inl rfl) (Or.inr (And.intro rfl (H.2 z1)))))) (fun j3 => (And.intro (fun (z4 : a0 < 48) => (bc_gx [some (.inl a0)] [] h _ rfl (bc_un (j3 (by omega)) :))) (fun (z4 : 48 ≤ a0) => (And.intro (fun (z5 : 57 < a0) => (bc_gx [some (.inl a0)] [] h _ rfl (bc_un (j3 (by omega)) :))) (fun (z5 : a0 ≤ 57) => (j2 (by omega))))))))))
theorem sb_M_isDigit {d : Nat} {a0 : Int} {h : bc_H} {A B : bc_H → Prop} (H : (48 ≤ a0 ∧ a0 ≤ 57 → A h) ∧ (¬ (48 ≤ a0 ∧ a0 ≤ 57) → B h)) : bf_M_isDigit d a0 h (bc_B A B) := by
  refine rv_M_isDigit ?_
  (repeat' (first | apply And.intro | intro _)) <;> first | exact H.1 (by omega) | exact H.2 (by omega)
theorem rv_M_isBeast {d : Nat} {a0 : Int} {h : bc_H} {A B : bc_H → Prop} (H : (a0 < 0 → (B h)) ∧ (0 ≤ a0 → ((a0 < (h 157 0) → (A h)) ∧ (¬ (a0 < (h 157 0)) → (B h))))) : bf_M_isBeast d a0 h (bc_B A B) := (bc_gx [some (.inr (.inr ((0, 12), 156))), some (.inl a0)] [] h _ rfl (And.intro (fun (z1 : a0 < 0) => (bc_gx [some (.inr (.inr ((0, 12), 156))), some (.inl a0)] [] h _ rfl (And.intro (Or.inl rfl) (Or.inr (And.intro rfl (H.1 z1)))))) (fun (z1 : 0 ≤ a0) => (And.intro (show (0:Int) ≤ 0 ∧ (0:Int) < 3968 by decide) (bc_let (p := (a0 < (h 157 0)) → bc_OK true d 254 11 185 [some (.inr (.inr ((0, 12), 156))), some (.inl a0)] [.inl 1] h 185 (bc_B A B)) (fun z2 => (bc_gx [some (.inr (.inr ((0, 12), 156))), some (.inl a0)] [.inl 1] h _ rfl (And.intro (Or.inr rfl) (Or.inl (And.intro rfl ((H.2 z1).1 z2)))))) (fun j3 => bc_let (p := ¬ (a0 < (h 157 0)) → bc_OK true d 254 11 185 [some (.inr (.inr ((0, 12), 156))), some (.inl a0)] [.inl 0] h 185 (bc_B A B)) (fun z2 => (bc_gx [some (.inr (.inr ((0, 12), 156))), some (.inl a0)] [.inl 0] h _ rfl (And.intro (Or.inl rfl) (Or.inr (And.intro rfl ((H.2 z1).2 z2)))))) (fun j4 => (And.intro (fun (z5 : (h 157 0) ≤ a0) => (bc_gx [some (.inr (.inr ((0, 12), 156))), some (.inl a0)] [] h _ rfl (bc_un (j4 (by omega)) :))) (fun (z5 : a0 < (h 157 0)) => (j3 (by omega)))))))))))
theorem sb_M_isBeast {d : Nat} {a0 : Int} {h : bc_H} {A B : bc_H → Prop} (H : (0 ≤ a0 ∧ a0 < (h 157 0) → A h) ∧ (¬ (0 ≤ a0 ∧ a0 < (h 157 0)) → B h)) : bf_M_isBeast d a0 h (bc_B A B) := by
  refine rv_M_isBeast ?_
  (repeat' (first | apply And.intro | intro _)) <;> first | exact H.1 (by omega) | exact H.2 (by omega)
theorem rv_M_isWall {d : Nat} {a0 : Int} {h : bc_H} {A B : bc_H → Prop} (H : (a0 < 0 → (B h)) ∧ (0 ≤ a0 → ((a0 < (h 157 1) → (A h)) ∧ (¬ (a0 < (h 157 1)) → (B h))))) : bf_M_isWall d a0 h (bc_B A B) := (bc_gx [some (.inr (.inr ((0, 12), 156))), some (.inl a0)] [] h _ rfl (And.intro (fun (z1 : a0 < 0) => (bc_gx [some (.inr (.inr ((0, 12), 156))), some (.inl a0)] [] h _ rfl (And.intro (Or.inl rfl) (Or.inr (And.intro rfl (H.1 z1)))))) (fun (z1 : 0 ≤ a0) => (And.intro (show (0:Int) ≤ 1 ∧ (1:Int) < 3968 by decide) (bc_let (p := (a0 < (h 157 1)) → bc_OK true d 255 11 185 [some (.inr (.inr ((0, 12), 156))), some (.inl a0)] [.inl 1] h 185 (bc_B A B)) (fun z2 => (bc_gx [some (.inr (.inr ((0, 12), 156))), some (.inl a0)] [.inl 1] h _ rfl (And.intro (Or.inr rfl) (Or.inl (And.intro rfl ((H.2 z1).1 z2)))))) (fun j3 => bc_let (p := ¬ (a0 < (h 157 1)) → bc_OK true d 255 11 185 [some (.inr (.inr ((0, 12), 156))), some (.inl a0)] [.inl 0] h 185 (bc_B A B)) (fun z2 => (bc_gx [some (.inr (.inr ((0, 12), 156))), some (.inl a0)] [.inl 0] h _ rfl (And.intro (Or.inl rfl) (Or.inr (And.intro rfl ((H.2 z1).2 z2)))))) (fun j4 => (And.intro (fun (z5 : (h 157 1) ≤ a0) => (bc_gx [some (.inr (.inr ((0, 12), 156))), some (.inl a0)] [] h _ rfl (bc_un (j4 (by omega)) :))) (fun (z5 : a0 < (h 157 1)) => (j3 (by omega)))))))))))
theorem sb_M_isWall {d : Nat} {a0 : Int} {h : bc_H} {A B : bc_H → Prop} (H : (0 ≤ a0 ∧ a0 < (h 157 1) → A h) ∧ (¬ (0 ≤ a0 ∧ a0 < (h 157 1)) → B h)) : bf_M_isWall d a0 h (bc_B A B) := by
  refine rv_M_isWall ?_
  (repeat' (first | apply And.intro | intro _)) <;> first | exact H.1 (by omega) | exact H.2 (by omega)
theorem rv_M_isVisitor {d : Nat} {a0 : Int} {h : bc_H} {A B : bc_H → Prop} (H : (a0 < 0 → (B h)) ∧ (0 ≤ a0 → ((a0 < (h 157 2) → (A h)) ∧ (¬ (a0 < (h 157 2)) → (B h))))) : bf_M_isVisitor d a0 h (bc_B A B) := (bc_gx [some (.inr (.inr ((0, 12), 156))), some (.inl a0)] [] h _ rfl (And.intro (fun (z1 : a0 < 0) => (bc_gx [some (.inr (.inr ((0, 12), 156))), some (.inl a0)] [] h _ rfl (And.intro (Or.inl rfl) (Or.inr (And.intro rfl (H.1 z1)))))) (fun (z1 : 0 ≤ a0) => (And.intro (show (0:Int) ≤ 2 ∧ (2:Int) < 3968 by decide) (bc_let (p := (a0 < (h 157 2)) → bc_OK true d 256 11 185 [some (.inr (.inr ((0, 12), 156))), some (.inl a0)] [.inl 1] h 185 (bc_B A B)) (fun z2 => (bc_gx [some (.inr (.inr ((0, 12), 156))), some (.inl a0)] [.inl 1] h _ rfl (And.intro (Or.inr rfl) (Or.inl (And.intro rfl ((H.2 z1).1 z2)))))) (fun j3 => bc_let (p := ¬ (a0 < (h 157 2)) → bc_OK true d 256 11 185 [some (.inr (.inr ((0, 12), 156))), some (.inl a0)] [.inl 0] h 185 (bc_B A B)) (fun z2 => (bc_gx [some (.inr (.inr ((0, 12), 156))), some (.inl a0)] [.inl 0] h _ rfl (And.intro (Or.inl rfl) (Or.inr (And.intro rfl ((H.2 z1).2 z2)))))) (fun j4 => (And.intro (fun (z5 : (h 157 2) ≤ a0) => (bc_gx [some (.inr (.inr ((0, 12), 156))), some (.inl a0)] [] h _ rfl (bc_un (j4 (by omega)) :))) (fun (z5 : a0 < (h 157 2)) => (j3 (by omega)))))))))))
theorem sb_M_isVisitor {d : Nat} {a0 : Int} {h : bc_H} {A B : bc_H → Prop} (H : (0 ≤ a0 ∧ a0 < (h 157 2) → A h) ∧ (¬ (0 ≤ a0 ∧ a0 < (h 157 2)) → B h)) : bf_M_isVisitor d a0 h (bc_B A B) := by
  refine rv_M_isVisitor ?_
  (repeat' (first | apply And.intro | intro _)) <;> first | exact H.1 (by omega) | exact H.2 (by omega)
theorem rv_M_isFigure {d : Nat} {a0 : Int} {h : bc_H} {A B : bc_H → Prop} (H : (a0 < 0 → (B h)) ∧ (0 ≤ a0 → ((a0 < (h 157 3) → (A h)) ∧ (¬ (a0 < (h 157 3)) → (B h))))) : bf_M_isFigure d a0 h (bc_B A B) := (bc_gx [some (.inr (.inr ((0, 12), 156))), some (.inl a0)] [] h _ rfl (And.intro (fun (z1 : a0 < 0) => (bc_gx [some (.inr (.inr ((0, 12), 156))), some (.inl a0)] [] h _ rfl (And.intro (Or.inl rfl) (Or.inr (And.intro rfl (H.1 z1)))))) (fun (z1 : 0 ≤ a0) => (And.intro (show (0:Int) ≤ 3 ∧ (3:Int) < 3968 by decide) (bc_let (p := (a0 < (h 157 3)) → bc_OK true d 257 11 185 [some (.inr (.inr ((0, 12), 156))), some (.inl a0)] [.inl 1] h 185 (bc_B A B)) (fun z2 => (bc_gx [some (.inr (.inr ((0, 12), 156))), some (.inl a0)] [.inl 1] h _ rfl (And.intro (Or.inr rfl) (Or.inl (And.intro rfl ((H.2 z1).1 z2)))))) (fun j3 => bc_let (p := ¬ (a0 < (h 157 3)) → bc_OK true d 257 11 185 [some (.inr (.inr ((0, 12), 156))), some (.inl a0)] [.inl 0] h 185 (bc_B A B)) (fun z2 => (bc_gx [some (.inr (.inr ((0, 12), 156))), some (.inl a0)] [.inl 0] h _ rfl (And.intro (Or.inl rfl) (Or.inr (And.intro rfl ((H.2 z1).2 z2)))))) (fun j4 => (And.intro (fun (z5 : (h 157 3) ≤ a0) => (bc_gx [some (.inr (.inr ((0, 12), 156))), some (.inl a0)] [] h _ rfl (bc_un (j4 (by omega)) :))) (fun (z5 : a0 < (h 157 3)) => (j3 (by omega)))))))))))
theorem sb_M_isFigure {d : Nat} {a0 : Int} {h : bc_H} {A B : bc_H → Prop} (H : (0 ≤ a0 ∧ a0 < (h 157 3) → A h) ∧ (¬ (0 ≤ a0 ∧ a0 < (h 157 3)) → B h)) : bf_M_isFigure d a0 h (bc_B A B) := by
  refine rv_M_isFigure ?_
  (repeat' (first | apply And.intro | intro _)) <;> first | exact H.1 (by omega) | exact H.2 (by omega)
theorem rv_M_isIn {d : Nat} {a0 : Int} {a1 : Int} {h : bc_H} {A B : bc_H → Prop} (H : ((bc_and (bc_shr a0 a1) 1) = 1 → (A h)) ∧ (¬ ((bc_and (bc_shr a0 a1) 1) = 1) → (B h))) : bf_M_isIn d a0 a1 h (bc_B A B) := (bc_gx [some (.inr (.inr ((0, 12), 156))), some (.inl a0), some (.inl a1)] [] h _ rfl (bc_let (p := ((bc_and (bc_shr a0 a1) 1) = 1) → bc_OK true d 258 10 185 [some (.inr (.inr ((0, 12), 156))), some (.inl a0), some (.inl a1)] [.inl 1] h 185 (bc_B A B)) (fun z1 => (bc_gx [some (.inr (.inr ((0, 12), 156))), some (.inl a0), some (.inl a1)] [.inl 1] h _ rfl (And.intro (Or.inr rfl) (Or.inl (And.intro rfl (H.1 z1)))))) (fun j2 => bc_let (p := ¬ ((bc_and (bc_shr a0 a1) 1) = 1) → bc_OK true d 258 10 185 [some (.inr (.inr ((0, 12), 156))), some (.inl a0), some (.inl a1)] [.inl 0] h 185 (bc_B A B)) (fun z1 => (bc_gx [some (.inr (.inr ((0, 12), 156))), some (.inl a0), some (.inl a1)] [.inl 0] h _ rfl (And.intro (Or.inl rfl) (Or.inr (And.intro rfl (H.2 z1)))))) (fun j3 => (And.intro (fun (z4 : (bc_and (bc_shr a0 a1) 1) ≠ 1) => (bc_gx [some (.inr (.inr ((0, 12), 156))), some (.inl a0), some (.inl a1)] [] h _ rfl (bc_un (j3 (by omega)) :))) (fun (z4 : (bc_and (bc_shr a0 a1) 1) = 1) => (j2 (by omega))))))))
theorem sb_M_isIn {d : Nat} {a0 : Int} {a1 : Int} {h : bc_H} {A B : bc_H → Prop} (H : (bc_and (bc_shr a0 a1) 1 = 1 → A h) ∧ (¬ (bc_and (bc_shr a0 a1) 1 = 1) → B h)) : bf_M_isIn d a0 a1 h (bc_B A B) := by
  refine rv_M_isIn ?_
  (repeat' (first | apply And.intro | intro _)) <;> first | exact H.1 (by omega) | exact H.2 (by omega)
end
