section
-- ===== PART A: goes FIRST, ahead of the names: the tables' words, and 'selects' of the private methods out of them =====
/-- a private method of a class that the tables say can be made, by its rows of tables_1 -/
def lw_okq (q : MethodName × Nat) : Prop := (q.1.cls ≠ "java/lang/invoke/MethodHandle" ∧ q.1.cls ≠ "java/lang/invoke/VarHandle") ∧ Cond.instantiable q.1.cls q.2 ∈ tables_1 ∧ Cond.privateMethod q.1 ∈ tables_1 ∧ Cond.instanceMethod q.1 ∈ tables_1
theorem lw_p0 : lw_okq (⟨"BeastCave", "deny", "(I)Z"⟩, 19) := ⟨⟨by decide +kernel, by decide +kernel⟩, List.mem_of_getElem? (i := 24) (by decide +kernel), List.mem_of_getElem? (i := 599) (by decide +kernel), List.mem_of_getElem? (i := 600) (by decide +kernel)⟩
theorem lw_p1 : lw_okq (⟨"BeastCave", "grant", "()Z"⟩, 19) := ⟨⟨by decide +kernel, by decide +kernel⟩, List.mem_of_getElem? (i := 24) (by decide +kernel), List.mem_of_getElem? (i := 607) (by decide +kernel), List.mem_of_getElem? (i := 608) (by decide +kernel)⟩
theorem lw_p2 : lw_okq (⟨"BeastCave", "statusOfPlace", "(II)I"⟩, 19) := ⟨⟨by decide +kernel, by decide +kernel⟩, List.mem_of_getElem? (i := 24) (by decide +kernel), List.mem_of_getElem? (i := 615) (by decide +kernel), List.mem_of_getElem? (i := 616) (by decide +kernel)⟩
theorem lw_p3 : lw_okq (⟨"BeastCave", "refuse", "(I)I"⟩, 19) := ⟨⟨by decide +kernel, by decide +kernel⟩, List.mem_of_getElem? (i := 24) (by decide +kernel), List.mem_of_getElem? (i := 638) (by decide +kernel), List.mem_of_getElem? (i := 639) (by decide +kernel)⟩
theorem lw_p4 : lw_okq (⟨"BeastCave$Text", "takeWord", "()V"⟩, 15) := ⟨⟨by decide +kernel, by decide +kernel⟩, List.mem_of_getElem? (i := 50) (by decide +kernel), List.mem_of_getElem? (i := 708) (by decide +kernel), List.mem_of_getElem? (i := 709) (by decide +kernel)⟩
theorem lw_p5 : lw_okq (⟨"BeastCave$Text", "takeNumber", "()V"⟩, 15) := ⟨⟨by decide +kernel, by decide +kernel⟩, List.mem_of_getElem? (i := 50) (by decide +kernel), List.mem_of_getElem? (i := 712) (by decide +kernel), List.mem_of_getElem? (i := 713) (by decide +kernel)⟩
theorem lw_p6 : lw_okq (⟨"BeastCave$Text", "takeSign", "()V"⟩, 15) := ⟨⟨by decide +kernel, by decide +kernel⟩, List.mem_of_getElem? (i := 50) (by decide +kernel), List.mem_of_getElem? (i := 716) (by decide +kernel), List.mem_of_getElem? (i := 717) (by decide +kernel)⟩
theorem lw_p7 : lw_okq (⟨"BeastCave$Reader", "takePart", "()Z"⟩, 9) := ⟨⟨by decide +kernel, by decide +kernel⟩, List.mem_of_getElem? (i := 160) (by decide +kernel), List.mem_of_getElem? (i := 724) (by decide +kernel), List.mem_of_getElem? (i := 725) (by decide +kernel)⟩
theorem lw_p8 : lw_okq (⟨"BeastCave$Reader", "takeLamp", "()Z"⟩, 9) := ⟨⟨by decide +kernel, by decide +kernel⟩, List.mem_of_getElem? (i := 160) (by decide +kernel), List.mem_of_getElem? (i := 728) (by decide +kernel), List.mem_of_getElem? (i := 729) (by decide +kernel)⟩
theorem lw_p9 : lw_okq (⟨"BeastCave$Reader", "takeOdds", "()Z"⟩, 9) := ⟨⟨by decide +kernel, by decide +kernel⟩, List.mem_of_getElem? (i := 160) (by decide +kernel), List.mem_of_getElem? (i := 742) (by decide +kernel), List.mem_of_getElem? (i := 743) (by decide +kernel)⟩
theorem lw_p10 : lw_okq (⟨"BeastCave$Reader", "takeBeast", "()Z"⟩, 9) := ⟨⟨by decide +kernel, by decide +kernel⟩, List.mem_of_getElem? (i := 160) (by decide +kernel), List.mem_of_getElem? (i := 746) (by decide +kernel), List.mem_of_getElem? (i := 747) (by decide +kernel)⟩
theorem lw_p11 : lw_okq (⟨"BeastCave$Reader", "newName", "(II)Z"⟩, 9) := ⟨⟨by decide +kernel, by decide +kernel⟩, List.mem_of_getElem? (i := 160) (by decide +kernel), List.mem_of_getElem? (i := 750) (by decide +kernel), List.mem_of_getElem? (i := 751) (by decide +kernel)⟩
theorem lw_p12 : lw_okq (⟨"BeastCave$Reader", "takeWall", "()Z"⟩, 9) := ⟨⟨by decide +kernel, by decide +kernel⟩, List.mem_of_getElem? (i := 160) (by decide +kernel), List.mem_of_getElem? (i := 766) (by decide +kernel), List.mem_of_getElem? (i := 767) (by decide +kernel)⟩
theorem lw_p13 : lw_okq (⟨"BeastCave$Reader", "knownName", "(II)Z"⟩, 9) := ⟨⟨by decide +kernel, by decide +kernel⟩, List.mem_of_getElem? (i := 160) (by decide +kernel), List.mem_of_getElem? (i := 774) (by decide +kernel), List.mem_of_getElem? (i := 775) (by decide +kernel)⟩
theorem lw_p14 : lw_okq (⟨"BeastCave$Reader", "takeWay", "()Z"⟩, 9) := ⟨⟨by decide +kernel, by decide +kernel⟩, List.mem_of_getElem? (i := 160) (by decide +kernel), List.mem_of_getElem? (i := 786) (by decide +kernel), List.mem_of_getElem? (i := 787) (by decide +kernel)⟩
theorem lw_p15 : lw_okq (⟨"BeastCave$Reader", "takeVisitor", "()Z"⟩, 9) := ⟨⟨by decide +kernel, by decide +kernel⟩, List.mem_of_getElem? (i := 160) (by decide +kernel), List.mem_of_getElem? (i := 794) (by decide +kernel), List.mem_of_getElem? (i := 795) (by decide +kernel)⟩
def lw_privs_1 : List (MethodName × Nat) := [(⟨"BeastCave", "deny", "(I)Z"⟩, 19), (⟨"BeastCave", "grant", "()Z"⟩, 19), (⟨"BeastCave", "statusOfPlace", "(II)I"⟩, 19), (⟨"BeastCave", "refuse", "(I)I"⟩, 19), (⟨"BeastCave$Text", "takeWord", "()V"⟩, 15), (⟨"BeastCave$Text", "takeNumber", "()V"⟩, 15), (⟨"BeastCave$Text", "takeSign", "()V"⟩, 15), (⟨"BeastCave$Reader", "takePart", "()Z"⟩, 9), (⟨"BeastCave$Reader", "takeLamp", "()Z"⟩, 9), (⟨"BeastCave$Reader", "takeOdds", "()Z"⟩, 9), (⟨"BeastCave$Reader", "takeBeast", "()Z"⟩, 9), (⟨"BeastCave$Reader", "newName", "(II)Z"⟩, 9), (⟨"BeastCave$Reader", "takeWall", "()Z"⟩, 9), (⟨"BeastCave$Reader", "knownName", "(II)Z"⟩, 9), (⟨"BeastCave$Reader", "takeWay", "()Z"⟩, 9), (⟨"BeastCave$Reader", "takeVisitor", "()Z"⟩, 9)]
theorem lw_r1 : ∀ q ∈ lw_privs_1, lw_okq q := List.forall_mem_cons.mpr ⟨lw_p0, List.forall_mem_cons.mpr ⟨lw_p1, List.forall_mem_cons.mpr ⟨lw_p2, List.forall_mem_cons.mpr ⟨lw_p3, List.forall_mem_cons.mpr ⟨lw_p4, List.forall_mem_cons.mpr ⟨lw_p5, List.forall_mem_cons.mpr ⟨lw_p6, List.forall_mem_cons.mpr ⟨lw_p7, List.forall_mem_cons.mpr ⟨lw_p8, List.forall_mem_cons.mpr ⟨lw_p9, List.forall_mem_cons.mpr ⟨lw_p10, List.forall_mem_cons.mpr ⟨lw_p11, List.forall_mem_cons.mpr ⟨lw_p12, List.forall_mem_cons.mpr ⟨lw_p13, List.forall_mem_cons.mpr ⟨lw_p14, List.forall_mem_cons.mpr ⟨lw_p15, fun _ h => absurd h List.not_mem_nil⟩⟩⟩⟩⟩⟩⟩⟩⟩⟩⟩⟩⟩⟩⟩⟩
theorem lw_p16 : lw_okq (⟨"BeastCave$Reader", "takeFigure", "()Z"⟩, 9) := ⟨⟨by decide +kernel, by decide +kernel⟩, List.mem_of_getElem? (i := 160) (by decide +kernel), List.mem_of_getElem? (i := 802) (by decide +kernel), List.mem_of_getElem? (i := 803) (by decide +kernel)⟩
theorem lw_p17 : lw_okq (⟨"BeastCave$Reader", "takeOver", "()Z"⟩, 9) := ⟨⟨by decide +kernel, by decide +kernel⟩, List.mem_of_getElem? (i := 160) (by decide +kernel), List.mem_of_getElem? (i := 810) (by decide +kernel), List.mem_of_getElem? (i := 811) (by decide +kernel)⟩
theorem lw_p18 : lw_okq (⟨"BeastCave$Reader", "takeFollows", "()Z"⟩, 9) := ⟨⟨by decide +kernel, by decide +kernel⟩, List.mem_of_getElem? (i := 160) (by decide +kernel), List.mem_of_getElem? (i := 814) (by decide +kernel), List.mem_of_getElem? (i := 815) (by decide +kernel)⟩
theorem lw_p19 : lw_okq (⟨"BeastCave$Walls", "shorten", "(III)V"⟩, 6) := ⟨⟨by decide +kernel, by decide +kernel⟩, List.mem_of_getElem? (i := 323) (by decide +kernel), List.mem_of_getElem? (i := 826) (by decide +kernel), List.mem_of_getElem? (i := 827) (by decide +kernel)⟩
theorem lw_p20 : lw_okq (⟨"BeastCave", "answer", "(I)I"⟩, 19) := ⟨⟨by decide +kernel, by decide +kernel⟩, List.mem_of_getElem? (i := 24) (by decide +kernel), List.mem_of_getElem? (i := 834) (by decide +kernel), List.mem_of_getElem? (i := 835) (by decide +kernel)⟩
theorem lw_p21 : lw_okq (⟨"BeastCave$Reader", "takeEnd", "()Z"⟩, 9) := ⟨⟨by decide +kernel, by decide +kernel⟩, List.mem_of_getElem? (i := 160) (by decide +kernel), List.mem_of_getElem? (i := 848) (by decide +kernel), List.mem_of_getElem? (i := 849) (by decide +kernel)⟩
theorem lw_p22 : lw_okq (⟨"BeastCave$Reader", "takeStep", "()Z"⟩, 9) := ⟨⟨by decide +kernel, by decide +kernel⟩, List.mem_of_getElem? (i := 160) (by decide +kernel), List.mem_of_getElem? (i := 861) (by decide +kernel), List.mem_of_getElem? (i := 862) (by decide +kernel)⟩
theorem lw_p23 : lw_okq (⟨"BeastCave$Reader", "takeTest", "()Z"⟩, 9) := ⟨⟨by decide +kernel, by decide +kernel⟩, List.mem_of_getElem? (i := 160) (by decide +kernel), List.mem_of_getElem? (i := 868) (by decide +kernel), List.mem_of_getElem? (i := 869) (by decide +kernel)⟩
theorem lw_p24 : lw_okq (⟨"BeastCave$Reader", "takeRest", "(I)Z"⟩, 9) := ⟨⟨by decide +kernel, by decide +kernel⟩, List.mem_of_getElem? (i := 160) (by decide +kernel), List.mem_of_getElem? (i := 872) (by decide +kernel), List.mem_of_getElem? (i := 873) (by decide +kernel)⟩
theorem lw_p25 : lw_okq (⟨"BeastCave", "isWall", "(I)Z"⟩, 19) := ⟨⟨by decide +kernel, by decide +kernel⟩, List.mem_of_getElem? (i := 24) (by decide +kernel), List.mem_of_getElem? (i := 910) (by decide +kernel), List.mem_of_getElem? (i := 911) (by decide +kernel)⟩
theorem lw_p26 : lw_okq (⟨"BeastCave", "isVisitor", "(I)Z"⟩, 19) := ⟨⟨by decide +kernel, by decide +kernel⟩, List.mem_of_getElem? (i := 24) (by decide +kernel), List.mem_of_getElem? (i := 918) (by decide +kernel), List.mem_of_getElem? (i := 919) (by decide +kernel)⟩
theorem lw_p27 : lw_okq (⟨"BeastCave", "isBeast", "(I)Z"⟩, 19) := ⟨⟨by decide +kernel, by decide +kernel⟩, List.mem_of_getElem? (i := 24) (by decide +kernel), List.mem_of_getElem? (i := 930) (by decide +kernel), List.mem_of_getElem? (i := 931) (by decide +kernel)⟩
theorem lw_p28 : lw_okq (⟨"BeastCave", "isFigure", "(I)Z"⟩, 19) := ⟨⟨by decide +kernel, by decide +kernel⟩, List.mem_of_getElem? (i := 24) (by decide +kernel), List.mem_of_getElem? (i := 946) (by decide +kernel), List.mem_of_getElem? (i := 947) (by decide +kernel)⟩
theorem lw_p29 : lw_okq (⟨"BeastCave", "statusOfTour", "(III)I"⟩, 19) := ⟨⟨by decide +kernel, by decide +kernel⟩, List.mem_of_getElem? (i := 24) (by decide +kernel), List.mem_of_getElem? (i := 1097) (by decide +kernel), List.mem_of_getElem? (i := 1098) (by decide +kernel)⟩
theorem lw_p30 : lw_okq (⟨"BeastCave$Search", "start", "(LBeastCave$Cave;I)V"⟩, 11) := ⟨⟨by decide +kernel, by decide +kernel⟩, List.mem_of_getElem? (i := 256) (by decide +kernel), List.mem_of_getElem? (i := 1105) (by decide +kernel), List.mem_of_getElem? (i := 1106) (by decide +kernel)⟩
theorem lw_p31 : lw_okq (⟨"BeastCave$Search", "goOn", "(IIII)V"⟩, 11) := ⟨⟨by decide +kernel, by decide +kernel⟩, List.mem_of_getElem? (i := 256) (by decide +kernel), List.mem_of_getElem? (i := 1110) (by decide +kernel), List.mem_of_getElem? (i := 1111) (by decide +kernel)⟩
def lw_privs_2 : List (MethodName × Nat) := [(⟨"BeastCave$Reader", "takeFigure", "()Z"⟩, 9), (⟨"BeastCave$Reader", "takeOver", "()Z"⟩, 9), (⟨"BeastCave$Reader", "takeFollows", "()Z"⟩, 9), (⟨"BeastCave$Walls", "shorten", "(III)V"⟩, 6), (⟨"BeastCave", "answer", "(I)I"⟩, 19), (⟨"BeastCave$Reader", "takeEnd", "()Z"⟩, 9), (⟨"BeastCave$Reader", "takeStep", "()Z"⟩, 9), (⟨"BeastCave$Reader", "takeTest", "()Z"⟩, 9), (⟨"BeastCave$Reader", "takeRest", "(I)Z"⟩, 9), (⟨"BeastCave", "isWall", "(I)Z"⟩, 19), (⟨"BeastCave", "isVisitor", "(I)Z"⟩, 19), (⟨"BeastCave", "isBeast", "(I)Z"⟩, 19), (⟨"BeastCave", "isFigure", "(I)Z"⟩, 19), (⟨"BeastCave", "statusOfTour", "(III)I"⟩, 19), (⟨"BeastCave$Search", "start", "(LBeastCave$Cave;I)V"⟩, 11), (⟨"BeastCave$Search", "goOn", "(IIII)V"⟩, 11)]
theorem lw_r2 : ∀ q ∈ lw_privs_2, lw_okq q := List.forall_mem_cons.mpr ⟨lw_p16, List.forall_mem_cons.mpr ⟨lw_p17, List.forall_mem_cons.mpr ⟨lw_p18, List.forall_mem_cons.mpr ⟨lw_p19, List.forall_mem_cons.mpr ⟨lw_p20, List.forall_mem_cons.mpr ⟨lw_p21, List.forall_mem_cons.mpr ⟨lw_p22, List.forall_mem_cons.mpr ⟨lw_p23, List.forall_mem_cons.mpr ⟨lw_p24, List.forall_mem_cons.mpr ⟨lw_p25, List.forall_mem_cons.mpr ⟨lw_p26, List.forall_mem_cons.mpr ⟨lw_p27, List.forall_mem_cons.mpr ⟨lw_p28, List.forall_mem_cons.mpr ⟨lw_p29, List.forall_mem_cons.mpr ⟨lw_p30, List.forall_mem_cons.mpr ⟨lw_p31, fun _ h => absurd h List.not_mem_nil⟩⟩⟩⟩⟩⟩⟩⟩⟩⟩⟩⟩⟩⟩⟩⟩
theorem lw_p32 : lw_okq (⟨"BeastCave$Search", "staysHimself", "(III)Z"⟩, 11) := ⟨⟨by decide +kernel, by decide +kernel⟩, List.mem_of_getElem? (i := 256) (by decide +kernel), List.mem_of_getElem? (i := 1116) (by decide +kernel), List.mem_of_getElem? (i := 1117) (by decide +kernel)⟩
theorem lw_p33 : lw_okq (⟨"BeastCave$Figures", "findLikeSets", "(I[I)V"⟩, 5) := ⟨⟨by decide +kernel, by decide +kernel⟩, List.mem_of_getElem? (i := 365) (by decide +kernel), List.mem_of_getElem? (i := 1159) (by decide +kernel), List.mem_of_getElem? (i := 1160) (by decide +kernel)⟩
theorem lw_p34 : lw_okq (⟨"BeastCave$Figures", "isLikeAll", "(III)Z"⟩, 5) := ⟨⟨by decide +kernel, by decide +kernel⟩, List.mem_of_getElem? (i := 365) (by decide +kernel), List.mem_of_getElem? (i := 1163) (by decide +kernel), List.mem_of_getElem? (i := 1164) (by decide +kernel)⟩
theorem lw_p35 : lw_okq (⟨"BeastCave", "statusOfSeen", "(III)I"⟩, 19) := ⟨⟨by decide +kernel, by decide +kernel⟩, List.mem_of_getElem? (i := 24) (by decide +kernel), List.mem_of_getElem? (i := 1213) (by decide +kernel), List.mem_of_getElem? (i := 1214) (by decide +kernel)⟩
theorem lw_p36 : lw_okq (⟨"BeastCave$Ahead", "whoWithSelf", "(LBeastCave$Cave;II)I"⟩, 3) := ⟨⟨by decide +kernel, by decide +kernel⟩, List.mem_of_getElem? (i := 237) (by decide +kernel), List.mem_of_getElem? (i := 1225) (by decide +kernel), List.mem_of_getElem? (i := 1226) (by decide +kernel)⟩
theorem lw_p37 : lw_okq (⟨"BeastCave$Search", "valueOf", "(III)I"⟩, 11) := ⟨⟨by decide +kernel, by decide +kernel⟩, List.mem_of_getElem? (i := 256) (by decide +kernel), List.mem_of_getElem? (i := 1258) (by decide +kernel), List.mem_of_getElem? (i := 1259) (by decide +kernel)⟩
theorem lw_p38 : lw_okq (⟨"BeastCave$Search", "bestOfGuide", "(III)I"⟩, 11) := ⟨⟨by decide +kernel, by decide +kernel⟩, List.mem_of_getElem? (i := 256) (by decide +kernel), List.mem_of_getElem? (i := 1262) (by decide +kernel), List.mem_of_getElem? (i := 1263) (by decide +kernel)⟩
theorem lw_p39 : lw_okq (⟨"BeastCave$Search", "behindMinute", "(III)I"⟩, 11) := ⟨⟨by decide +kernel, by decide +kernel⟩, List.mem_of_getElem? (i := 256) (by decide +kernel), List.mem_of_getElem? (i := 1266) (by decide +kernel), List.mem_of_getElem? (i := 1267) (by decide +kernel)⟩
theorem lw_p40 : lw_okq (⟨"BeastCave$Search", "bestOfBeast", "(III)I"⟩, 11) := ⟨⟨by decide +kernel, by decide +kernel⟩, List.mem_of_getElem? (i := 256) (by decide +kernel), List.mem_of_getElem? (i := 1271) (by decide +kernel), List.mem_of_getElem? (i := 1272) (by decide +kernel)⟩
theorem lw_p41 : lw_okq (⟨"BeastCave", "tellFraction", "(JJ)V"⟩, 19) := ⟨⟨by decide +kernel, by decide +kernel⟩, List.mem_of_getElem? (i := 24) (by decide +kernel), List.mem_of_getElem? (i := 1289) (by decide +kernel), List.mem_of_getElem? (i := 1290) (by decide +kernel)⟩
theorem lw_p42 : lw_okq (⟨"BeastCave$Life", "behindEnd", "(I)I"⟩, 10) := ⟨⟨by decide +kernel, by decide +kernel⟩, List.mem_of_getElem? (i := 194) (by decide +kernel), List.mem_of_getElem? (i := 1306) (by decide +kernel), List.mem_of_getElem? (i := 1307) (by decide +kernel)⟩
theorem lw_p43 : lw_okq (⟨"BeastCave$Life", "behindStep", "(I)I"⟩, 10) := ⟨⟨by decide +kernel, by decide +kernel⟩, List.mem_of_getElem? (i := 194) (by decide +kernel), List.mem_of_getElem? (i := 1310) (by decide +kernel), List.mem_of_getElem? (i := 1311) (by decide +kernel)⟩
theorem lw_p44 : lw_okq (⟨"BeastCave$Life", "holds", "(I)Z"⟩, 10) := ⟨⟨by decide +kernel, by decide +kernel⟩, List.mem_of_getElem? (i := 194) (by decide +kernel), List.mem_of_getElem? (i := 1314) (by decide +kernel), List.mem_of_getElem? (i := 1315) (by decide +kernel)⟩
theorem lw_p45 : lw_okq (⟨"BeastCave$Life", "isThere", "(I)Z"⟩, 10) := ⟨⟨by decide +kernel, by decide +kernel⟩, List.mem_of_getElem? (i := 194) (by decide +kernel), List.mem_of_getElem? (i := 1318) (by decide +kernel), List.mem_of_getElem? (i := 1319) (by decide +kernel)⟩
theorem lw_p46 : lw_okq (⟨"BeastCave$Life", "letPass", "(I)Z"⟩, 10) := ⟨⟨by decide +kernel, by decide +kernel⟩, List.mem_of_getElem? (i := 194) (by decide +kernel), List.mem_of_getElem? (i := 1325) (by decide +kernel), List.mem_of_getElem? (i := 1326) (by decide +kernel)⟩
theorem lw_p47 : lw_okq (⟨"BeastCave$Life", "leadOne", "(I)Z"⟩, 10) := ⟨⟨by decide +kernel, by decide +kernel⟩, List.mem_of_getElem? (i := 194) (by decide +kernel), List.mem_of_getElem? (i := 1332) (by decide +kernel), List.mem_of_getElem? (i := 1333) (by decide +kernel)⟩
def lw_privs_3 : List (MethodName × Nat) := [(⟨"BeastCave$Search", "staysHimself", "(III)Z"⟩, 11), (⟨"BeastCave$Figures", "findLikeSets", "(I[I)V"⟩, 5), (⟨"BeastCave$Figures", "isLikeAll", "(III)Z"⟩, 5), (⟨"BeastCave", "statusOfSeen", "(III)I"⟩, 19), (⟨"BeastCave$Ahead", "whoWithSelf", "(LBeastCave$Cave;II)I"⟩, 3), (⟨"BeastCave$Search", "valueOf", "(III)I"⟩, 11), (⟨"BeastCave$Search", "bestOfGuide", "(III)I"⟩, 11), (⟨"BeastCave$Search", "behindMinute", "(III)I"⟩, 11), (⟨"BeastCave$Search", "bestOfBeast", "(III)I"⟩, 11), (⟨"BeastCave", "tellFraction", "(JJ)V"⟩, 19), (⟨"BeastCave$Life", "behindEnd", "(I)I"⟩, 10), (⟨"BeastCave$Life", "behindStep", "(I)I"⟩, 10), (⟨"BeastCave$Life", "holds", "(I)Z"⟩, 10), (⟨"BeastCave$Life", "isThere", "(I)Z"⟩, 10), (⟨"BeastCave$Life", "letPass", "(I)Z"⟩, 10), (⟨"BeastCave$Life", "leadOne", "(I)Z"⟩, 10)]
theorem lw_r3 : ∀ q ∈ lw_privs_3, lw_okq q := List.forall_mem_cons.mpr ⟨lw_p32, List.forall_mem_cons.mpr ⟨lw_p33, List.forall_mem_cons.mpr ⟨lw_p34, List.forall_mem_cons.mpr ⟨lw_p35, List.forall_mem_cons.mpr ⟨lw_p36, List.forall_mem_cons.mpr ⟨lw_p37, List.forall_mem_cons.mpr ⟨lw_p38, List.forall_mem_cons.mpr ⟨lw_p39, List.forall_mem_cons.mpr ⟨lw_p40, List.forall_mem_cons.mpr ⟨lw_p41, List.forall_mem_cons.mpr ⟨lw_p42, List.forall_mem_cons.mpr ⟨lw_p43, List.forall_mem_cons.mpr ⟨lw_p44, List.forall_mem_cons.mpr ⟨lw_p45, List.forall_mem_cons.mpr ⟨lw_p46, List.forall_mem_cons.mpr ⟨lw_p47, fun _ h => absurd h List.not_mem_nil⟩⟩⟩⟩⟩⟩⟩⟩⟩⟩⟩⟩⟩⟩⟩⟩
theorem lw_p48 : lw_okq (⟨"BeastCave$Life", "pick", "(I)I"⟩, 10) := ⟨⟨by decide +kernel, by decide +kernel⟩, List.mem_of_getElem? (i := 194) (by decide +kernel), List.mem_of_getElem? (i := 1336) (by decide +kernel), List.mem_of_getElem? (i := 1337) (by decide +kernel)⟩
theorem lw_p49 : lw_okq (⟨"BeastCaveModel", "plain", "(I)V"⟩, 50) := ⟨⟨by decide +kernel, by decide +kernel⟩, List.mem_of_getElem? (i := 1363) (by decide +kernel), List.mem_of_getElem? (i := 1369) (by decide +kernel), List.mem_of_getElem? (i := 1370) (by decide +kernel)⟩
theorem lw_p50 : lw_okq (⟨"BeastCaveModel", "is", "(I)Z"⟩, 50) := ⟨⟨by decide +kernel, by decide +kernel⟩, List.mem_of_getElem? (i := 1363) (by decide +kernel), List.mem_of_getElem? (i := 1544) (by decide +kernel), List.mem_of_getElem? (i := 1545) (by decide +kernel)⟩
theorem lw_p51 : lw_okq (⟨"BeastCaveModel", "wrongPlace", "(II)I"⟩, 50) := ⟨⟨by decide +kernel, by decide +kernel⟩, List.mem_of_getElem? (i := 1363) (by decide +kernel), List.mem_of_getElem? (i := 1552) (by decide +kernel), List.mem_of_getElem? (i := 1553) (by decide +kernel)⟩
theorem lw_p52 : lw_okq (⟨"BeastCaveModel", "four", "(I)V"⟩, 50) := ⟨⟨by decide +kernel, by decide +kernel⟩, List.mem_of_getElem? (i := 1363) (by decide +kernel), List.mem_of_getElem? (i := 1572) (by decide +kernel), List.mem_of_getElem? (i := 1573) (by decide +kernel)⟩
theorem lw_p53 : lw_okq (⟨"BeastCaveModel", "begins", "(II)Z"⟩, 50) := ⟨⟨by decide +kernel, by decide +kernel⟩, List.mem_of_getElem? (i := 1363) (by decide +kernel), List.mem_of_getElem? (i := 1584) (by decide +kernel), List.mem_of_getElem? (i := 1585) (by decide +kernel)⟩
theorem lw_p54 : lw_okq (⟨"BeastCaveModel", "ahead", "()V"⟩, 50) := ⟨⟨by decide +kernel, by decide +kernel⟩, List.mem_of_getElem? (i := 1363) (by decide +kernel), List.mem_of_getElem? (i := 1588) (by decide +kernel), List.mem_of_getElem? (i := 1589) (by decide +kernel)⟩
theorem lw_p55 : lw_okq (⟨"BeastCaveModel", "byteAt", "(I)I"⟩, 50) := ⟨⟨by decide +kernel, by decide +kernel⟩, List.mem_of_getElem? (i := 1363) (by decide +kernel), List.mem_of_getElem? (i := 1592) (by decide +kernel), List.mem_of_getElem? (i := 1593) (by decide +kernel)⟩
theorem lw_p56 : lw_okq (⟨"BeastCaveModel", "refuse", "(I)I"⟩, 50) := ⟨⟨by decide +kernel, by decide +kernel⟩, List.mem_of_getElem? (i := 1363) (by decide +kernel), List.mem_of_getElem? (i := 1604) (by decide +kernel), List.mem_of_getElem? (i := 1605) (by decide +kernel)⟩
theorem lw_p57 : lw_okq (⟨"BeastCaveModel", "cavePart", "()Z"⟩, 50) := ⟨⟨by decide +kernel, by decide +kernel⟩, List.mem_of_getElem? (i := 1363) (by decide +kernel), List.mem_of_getElem? (i := 1608) (by decide +kernel), List.mem_of_getElem? (i := 1609) (by decide +kernel)⟩
theorem lw_p58 : lw_okq (⟨"BeastCaveModel", "inWords", "(Ljava/lang/String;)I"⟩, 50) := ⟨⟨by decide +kernel, by decide +kernel⟩, List.mem_of_getElem? (i := 1363) (by decide +kernel), List.mem_of_getElem? (i := 1613) (by decide +kernel), List.mem_of_getElem? (i := 1614) (by decide +kernel)⟩
theorem lw_p59 : lw_okq (⟨"BeastCaveModel", "fails", "(I)Z"⟩, 50) := ⟨⟨by decide +kernel, by decide +kernel⟩, List.mem_of_getElem? (i := 1363) (by decide +kernel), List.mem_of_getElem? (i := 1619) (by decide +kernel), List.mem_of_getElem? (i := 1620) (by decide +kernel)⟩
theorem lw_p60 : lw_okq (⟨"BeastCaveModel", "number", "(III)Z"⟩, 50) := ⟨⟨by decide +kernel, by decide +kernel⟩, List.mem_of_getElem? (i := 1363) (by decide +kernel), List.mem_of_getElem? (i := 1623) (by decide +kernel), List.mem_of_getElem? (i := 1624) (by decide +kernel)⟩
theorem lw_p61 : lw_okq (⟨"BeastCaveModel", "aBeast", "()Z"⟩, 50) := ⟨⟨by decide +kernel, by decide +kernel⟩, List.mem_of_getElem? (i := 1363) (by decide +kernel), List.mem_of_getElem? (i := 1627) (by decide +kernel), List.mem_of_getElem? (i := 1628) (by decide +kernel)⟩
theorem lw_p62 : lw_okq (⟨"BeastCaveModel", "newOne", "(III)Z"⟩, 50) := ⟨⟨by decide +kernel, by decide +kernel⟩, List.mem_of_getElem? (i := 1363) (by decide +kernel), List.mem_of_getElem? (i := 1631) (by decide +kernel), List.mem_of_getElem? (i := 1632) (by decide +kernel)⟩
theorem lw_p63 : lw_okq (⟨"BeastCaveModel", "isName", "(Ljava/lang/String;)Z"⟩, 50) := ⟨⟨by decide +kernel, by decide +kernel⟩, List.mem_of_getElem? (i := 1363) (by decide +kernel), List.mem_of_getElem? (i := 1635) (by decide +kernel), List.mem_of_getElem? (i := 1636) (by decide +kernel)⟩
def lw_privs_4 : List (MethodName × Nat) := [(⟨"BeastCave$Life", "pick", "(I)I"⟩, 10), (⟨"BeastCaveModel", "plain", "(I)V"⟩, 50), (⟨"BeastCaveModel", "is", "(I)Z"⟩, 50), (⟨"BeastCaveModel", "wrongPlace", "(II)I"⟩, 50), (⟨"BeastCaveModel", "four", "(I)V"⟩, 50), (⟨"BeastCaveModel", "begins", "(II)Z"⟩, 50), (⟨"BeastCaveModel", "ahead", "()V"⟩, 50), (⟨"BeastCaveModel", "byteAt", "(I)I"⟩, 50), (⟨"BeastCaveModel", "refuse", "(I)I"⟩, 50), (⟨"BeastCaveModel", "cavePart", "()Z"⟩, 50), (⟨"BeastCaveModel", "inWords", "(Ljava/lang/String;)I"⟩, 50), (⟨"BeastCaveModel", "fails", "(I)Z"⟩, 50), (⟨"BeastCaveModel", "number", "(III)Z"⟩, 50), (⟨"BeastCaveModel", "aBeast", "()Z"⟩, 50), (⟨"BeastCaveModel", "newOne", "(III)Z"⟩, 50), (⟨"BeastCaveModel", "isName", "(Ljava/lang/String;)Z"⟩, 50)]
theorem lw_r4 : ∀ q ∈ lw_privs_4, lw_okq q := List.forall_mem_cons.mpr ⟨lw_p48, List.forall_mem_cons.mpr ⟨lw_p49, List.forall_mem_cons.mpr ⟨lw_p50, List.forall_mem_cons.mpr ⟨lw_p51, List.forall_mem_cons.mpr ⟨lw_p52, List.forall_mem_cons.mpr ⟨lw_p53, List.forall_mem_cons.mpr ⟨lw_p54, List.forall_mem_cons.mpr ⟨lw_p55, List.forall_mem_cons.mpr ⟨lw_p56, List.forall_mem_cons.mpr ⟨lw_p57, List.forall_mem_cons.mpr ⟨lw_p58, List.forall_mem_cons.mpr ⟨lw_p59, List.forall_mem_cons.mpr ⟨lw_p60, List.forall_mem_cons.mpr ⟨lw_p61, List.forall_mem_cons.mpr ⟨lw_p62, List.forall_mem_cons.mpr ⟨lw_p63, fun _ h => absurd h List.not_mem_nil⟩⟩⟩⟩⟩⟩⟩⟩⟩⟩⟩⟩⟩⟩⟩⟩
theorem lw_p64 : lw_okq (⟨"BeastCaveModel", "isOld", "()Z"⟩, 50) := ⟨⟨by decide +kernel, by decide +kernel⟩, List.mem_of_getElem? (i := 1363) (by decide +kernel), List.mem_of_getElem? (i := 1639) (by decide +kernel), List.mem_of_getElem? (i := 1640) (by decide +kernel)⟩
theorem lw_p65 : lw_okq (⟨"BeastCaveModel", "findHere", "(II)I"⟩, 50) := ⟨⟨by decide +kernel, by decide +kernel⟩, List.mem_of_getElem? (i := 1363) (by decide +kernel), List.mem_of_getElem? (i := 1643) (by decide +kernel), List.mem_of_getElem? (i := 1644) (by decide +kernel)⟩
theorem lw_p66 : lw_okq (⟨"BeastCaveModel", "nameHere", "()J"⟩, 50) := ⟨⟨by decide +kernel, by decide +kernel⟩, List.mem_of_getElem? (i := 1363) (by decide +kernel), List.mem_of_getElem? (i := 1647) (by decide +kernel), List.mem_of_getElem? (i := 1648) (by decide +kernel)⟩
theorem lw_p67 : lw_okq (⟨"BeastCaveModel", "aWall", "()Z"⟩, 50) := ⟨⟨by decide +kernel, by decide +kernel⟩, List.mem_of_getElem? (i := 1363) (by decide +kernel), List.mem_of_getElem? (i := 1651) (by decide +kernel), List.mem_of_getElem? (i := 1652) (by decide +kernel)⟩
theorem lw_p68 : lw_okq (⟨"BeastCaveModel", "isThere", "(I)Z"⟩, 50) := ⟨⟨by decide +kernel, by decide +kernel⟩, List.mem_of_getElem? (i := 1363) (by decide +kernel), List.mem_of_getElem? (i := 1658) (by decide +kernel), List.mem_of_getElem? (i := 1659) (by decide +kernel)⟩
theorem lw_p69 : lw_okq (⟨"BeastCaveModel", "newBeastTo", "(I)Z"⟩, 50) := ⟨⟨by decide +kernel, by decide +kernel⟩, List.mem_of_getElem? (i := 1363) (by decide +kernel), List.mem_of_getElem? (i := 1662) (by decide +kernel), List.mem_of_getElem? (i := 1663) (by decide +kernel)⟩
theorem lw_p70 : lw_okq (⟨"BeastCaveModel", "oldOne", "(III)Z"⟩, 50) := ⟨⟨by decide +kernel, by decide +kernel⟩, List.mem_of_getElem? (i := 1363) (by decide +kernel), List.mem_of_getElem? (i := 1666) (by decide +kernel), List.mem_of_getElem? (i := 1667) (by decide +kernel)⟩
theorem lw_p71 : lw_okq (⟨"BeastCaveModel", "wantWord", "(Ljava/lang/String;I)Z"⟩, 50) := ⟨⟨by decide +kernel, by decide +kernel⟩, List.mem_of_getElem? (i := 1363) (by decide +kernel), List.mem_of_getElem? (i := 1670) (by decide +kernel), List.mem_of_getElem? (i := 1671) (by decide +kernel)⟩
theorem lw_p72 : lw_okq (⟨"BeastCaveModel", "aWay", "()Z"⟩, 50) := ⟨⟨by decide +kernel, by decide +kernel⟩, List.mem_of_getElem? (i := 1363) (by decide +kernel), List.mem_of_getElem? (i := 1674) (by decide +kernel), List.mem_of_getElem? (i := 1675) (by decide +kernel)⟩
theorem lw_p73 : lw_okq (⟨"BeastCaveModel", "oldTwo", "(III)Z"⟩, 50) := ⟨⟨by decide +kernel, by decide +kernel⟩, List.mem_of_getElem? (i := 1363) (by decide +kernel), List.mem_of_getElem? (i := 1678) (by decide +kernel), List.mem_of_getElem? (i := 1679) (by decide +kernel)⟩
theorem lw_p74 : lw_okq (⟨"BeastCaveModel", "aVisitor", "()Z"⟩, 50) := ⟨⟨by decide +kernel, by decide +kernel⟩, List.mem_of_getElem? (i := 1363) (by decide +kernel), List.mem_of_getElem? (i := 1682) (by decide +kernel), List.mem_of_getElem? (i := 1683) (by decide +kernel)⟩
theorem lw_p75 : lw_okq (⟨"BeastCaveModel", "aFigure", "()Z"⟩, 50) := ⟨⟨by decide +kernel, by decide +kernel⟩, List.mem_of_getElem? (i := 1363) (by decide +kernel), List.mem_of_getElem? (i := 1689) (by decide +kernel), List.mem_of_getElem? (i := 1690) (by decide +kernel)⟩
theorem lw_p76 : lw_okq (⟨"BeastCaveModel", "anOver", "()Z"⟩, 50) := ⟨⟨by decide +kernel, by decide +kernel⟩, List.mem_of_getElem? (i := 1363) (by decide +kernel), List.mem_of_getElem? (i := 1696) (by decide +kernel), List.mem_of_getElem? (i := 1697) (by decide +kernel)⟩
theorem lw_p77 : lw_okq (⟨"BeastCaveModel", "aFollowing", "()Z"⟩, 50) := ⟨⟨by decide +kernel, by decide +kernel⟩, List.mem_of_getElem? (i := 1363) (by decide +kernel), List.mem_of_getElem? (i := 1700) (by decide +kernel), List.mem_of_getElem? (i := 1701) (by decide +kernel)⟩
theorem lw_p78 : lw_okq (⟨"BeastCaveModel", "wantSign", "(I)Z"⟩, 50) := ⟨⟨by decide +kernel, by decide +kernel⟩, List.mem_of_getElem? (i := 1363) (by decide +kernel), List.mem_of_getElem? (i := 1704) (by decide +kernel), List.mem_of_getElem? (i := 1705) (by decide +kernel)⟩
theorem lw_p79 : lw_okq (⟨"BeastCaveModel", "isSign", "(I)Z"⟩, 50) := ⟨⟨by decide +kernel, by decide +kernel⟩, List.mem_of_getElem? (i := 1363) (by decide +kernel), List.mem_of_getElem? (i := 1708) (by decide +kernel), List.mem_of_getElem? (i := 1709) (by decide +kernel)⟩
def lw_privs_5 : List (MethodName × Nat) := [(⟨"BeastCaveModel", "isOld", "()Z"⟩, 50), (⟨"BeastCaveModel", "findHere", "(II)I"⟩, 50), (⟨"BeastCaveModel", "nameHere", "()J"⟩, 50), (⟨"BeastCaveModel", "aWall", "()Z"⟩, 50), (⟨"BeastCaveModel", "isThere", "(I)Z"⟩, 50), (⟨"BeastCaveModel", "newBeastTo", "(I)Z"⟩, 50), (⟨"BeastCaveModel", "oldOne", "(III)Z"⟩, 50), (⟨"BeastCaveModel", "wantWord", "(Ljava/lang/String;I)Z"⟩, 50), (⟨"BeastCaveModel", "aWay", "()Z"⟩, 50), (⟨"BeastCaveModel", "oldTwo", "(III)Z"⟩, 50), (⟨"BeastCaveModel", "aVisitor", "()Z"⟩, 50), (⟨"BeastCaveModel", "aFigure", "()Z"⟩, 50), (⟨"BeastCaveModel", "anOver", "()Z"⟩, 50), (⟨"BeastCaveModel", "aFollowing", "()Z"⟩, 50), (⟨"BeastCaveModel", "wantSign", "(I)Z"⟩, 50), (⟨"BeastCaveModel", "isSign", "(I)Z"⟩, 50)]
theorem lw_r5 : ∀ q ∈ lw_privs_5, lw_okq q := List.forall_mem_cons.mpr ⟨lw_p64, List.forall_mem_cons.mpr ⟨lw_p65, List.forall_mem_cons.mpr ⟨lw_p66, List.forall_mem_cons.mpr ⟨lw_p67, List.forall_mem_cons.mpr ⟨lw_p68, List.forall_mem_cons.mpr ⟨lw_p69, List.forall_mem_cons.mpr ⟨lw_p70, List.forall_mem_cons.mpr ⟨lw_p71, List.forall_mem_cons.mpr ⟨lw_p72, List.forall_mem_cons.mpr ⟨lw_p73, List.forall_mem_cons.mpr ⟨lw_p74, List.forall_mem_cons.mpr ⟨lw_p75, List.forall_mem_cons.mpr ⟨lw_p76, List.forall_mem_cons.mpr ⟨lw_p77, List.forall_mem_cons.mpr ⟨lw_p78, List.forall_mem_cons.mpr ⟨lw_p79, fun _ h => absurd h List.not_mem_nil⟩⟩⟩⟩⟩⟩⟩⟩⟩⟩⟩⟩⟩⟩⟩⟩
theorem lw_p80 : lw_okq (⟨"BeastCaveModel", "taken", "(I)I"⟩, 50) := ⟨⟨by decide +kernel, by decide +kernel⟩, List.mem_of_getElem? (i := 1363) (by decide +kernel), List.mem_of_getElem? (i := 1712) (by decide +kernel), List.mem_of_getElem? (i := 1713) (by decide +kernel)⟩
theorem lw_p81 : lw_okq (⟨"BeastCaveModel", "gives", "(I)I"⟩, 50) := ⟨⟨by decide +kernel, by decide +kernel⟩, List.mem_of_getElem? (i := 1363) (by decide +kernel), List.mem_of_getElem? (i := 1716) (by decide +kernel), List.mem_of_getElem? (i := 1717) (by decide +kernel)⟩
theorem lw_p82 : lw_okq (⟨"BeastCaveModel", "dayStep", "()Z"⟩, 50) := ⟨⟨by decide +kernel, by decide +kernel⟩, List.mem_of_getElem? (i := 1363) (by decide +kernel), List.mem_of_getElem? (i := 1724) (by decide +kernel), List.mem_of_getElem? (i := 1725) (by decide +kernel)⟩
theorem lw_p83 : lw_okq (⟨"BeastCaveModel", "dayOrder", "(II)Z"⟩, 50) := ⟨⟨by decide +kernel, by decide +kernel⟩, List.mem_of_getElem? (i := 1363) (by decide +kernel), List.mem_of_getElem? (i := 1728) (by decide +kernel), List.mem_of_getElem? (i := 1729) (by decide +kernel)⟩
theorem lw_p84 : lw_okq (⟨"BeastCaveModel", "visitorTo", "(I)Z"⟩, 50) := ⟨⟨by decide +kernel, by decide +kernel⟩, List.mem_of_getElem? (i := 1363) (by decide +kernel), List.mem_of_getElem? (i := 1732) (by decide +kernel), List.mem_of_getElem? (i := 1733) (by decide +kernel)⟩
theorem lw_p85 : lw_okq (⟨"BeastCaveModel", "wallTo", "(I)Z"⟩, 50) := ⟨⟨by decide +kernel, by decide +kernel⟩, List.mem_of_getElem? (i := 1363) (by decide +kernel), List.mem_of_getElem? (i := 1736) (by decide +kernel), List.mem_of_getElem? (i := 1737) (by decide +kernel)⟩
theorem lw_p86 : lw_okq (⟨"BeastCaveModel", "test", "(I)Z"⟩, 50) := ⟨⟨by decide +kernel, by decide +kernel⟩, List.mem_of_getElem? (i := 1363) (by decide +kernel), List.mem_of_getElem? (i := 1740) (by decide +kernel), List.mem_of_getElem? (i := 1741) (by decide +kernel)⟩
theorem lw_p87 : lw_okq (⟨"BeastCaveModel", "bareOnes", "()I"⟩, 50) := ⟨⟨by decide +kernel, by decide +kernel⟩, List.mem_of_getElem? (i := 1363) (by decide +kernel), List.mem_of_getElem? (i := 1748) (by decide +kernel), List.mem_of_getElem? (i := 1749) (by decide +kernel)⟩
theorem lw_p88 : lw_okq (⟨"BeastCaveModel", "wallOf", "(II)I"⟩, 50) := ⟨⟨by decide +kernel, by decide +kernel⟩, List.mem_of_getElem? (i := 1363) (by decide +kernel), List.mem_of_getElem? (i := 1752) (by decide +kernel), List.mem_of_getElem? (i := 1753) (by decide +kernel)⟩
theorem lw_p89 : lw_okq (⟨"BeastCaveModel", "visitorsThat", "(I)I"⟩, 50) := ⟨⟨by decide +kernel, by decide +kernel⟩, List.mem_of_getElem? (i := 1363) (by decide +kernel), List.mem_of_getElem? (i := 1756) (by decide +kernel), List.mem_of_getElem? (i := 1757) (by decide +kernel)⟩
theorem lw_p90 : lw_okq (⟨"BeastCaveModel", "isTurned", "(I)Z"⟩, 50) := ⟨⟨by decide +kernel, by decide +kernel⟩, List.mem_of_getElem? (i := 1363) (by decide +kernel), List.mem_of_getElem? (i := 1760) (by decide +kernel), List.mem_of_getElem? (i := 1761) (by decide +kernel)⟩
theorem lw_p91 : lw_okq (⟨"BeastCaveModel", "mostOf", "(I)I"⟩, 50) := ⟨⟨by decide +kernel, by decide +kernel⟩, List.mem_of_getElem? (i := 1363) (by decide +kernel), List.mem_of_getElem? (i := 1764) (by decide +kernel), List.mem_of_getElem? (i := 1765) (by decide +kernel)⟩
theorem lw_p92 : lw_okq (⟨"BeastCaveModel", "greatestOf", "(I)I"⟩, 50) := ⟨⟨by decide +kernel, by decide +kernel⟩, List.mem_of_getElem? (i := 1363) (by decide +kernel), List.mem_of_getElem? (i := 1768) (by decide +kernel), List.mem_of_getElem? (i := 1769) (by decide +kernel)⟩
theorem lw_p93 : lw_okq (⟨"BeastCaveModel", "visitorOf", "(II)I"⟩, 50) := ⟨⟨by decide +kernel, by decide +kernel⟩, List.mem_of_getElem? (i := 1363) (by decide +kernel), List.mem_of_getElem? (i := 1772) (by decide +kernel), List.mem_of_getElem? (i := 1773) (by decide +kernel)⟩
theorem lw_p94 : lw_okq (⟨"BeastCaveModel", "isWall", "(I)Z"⟩, 50) := ⟨⟨by decide +kernel, by decide +kernel⟩, List.mem_of_getElem? (i := 1363) (by decide +kernel), List.mem_of_getElem? (i := 1780) (by decide +kernel), List.mem_of_getElem? (i := 1781) (by decide +kernel)⟩
theorem lw_p95 : lw_okq (⟨"BeastCaveModel", "isVisitor", "(I)Z"⟩, 50) := ⟨⟨by decide +kernel, by decide +kernel⟩, List.mem_of_getElem? (i := 1363) (by decide +kernel), List.mem_of_getElem? (i := 1788) (by decide +kernel), List.mem_of_getElem? (i := 1789) (by decide +kernel)⟩
def lw_privs_6 : List (MethodName × Nat) := [(⟨"BeastCaveModel", "taken", "(I)I"⟩, 50), (⟨"BeastCaveModel", "gives", "(I)I"⟩, 50), (⟨"BeastCaveModel", "dayStep", "()Z"⟩, 50), (⟨"BeastCaveModel", "dayOrder", "(II)Z"⟩, 50), (⟨"BeastCaveModel", "visitorTo", "(I)Z"⟩, 50), (⟨"BeastCaveModel", "wallTo", "(I)Z"⟩, 50), (⟨"BeastCaveModel", "test", "(I)Z"⟩, 50), (⟨"BeastCaveModel", "bareOnes", "()I"⟩, 50), (⟨"BeastCaveModel", "wallOf", "(II)I"⟩, 50), (⟨"BeastCaveModel", "visitorsThat", "(I)I"⟩, 50), (⟨"BeastCaveModel", "isTurned", "(I)Z"⟩, 50), (⟨"BeastCaveModel", "mostOf", "(I)I"⟩, 50), (⟨"BeastCaveModel", "greatestOf", "(I)I"⟩, 50), (⟨"BeastCaveModel", "visitorOf", "(II)I"⟩, 50), (⟨"BeastCaveModel", "isWall", "(I)Z"⟩, 50), (⟨"BeastCaveModel", "isVisitor", "(I)Z"⟩, 50)]
theorem lw_r6 : ∀ q ∈ lw_privs_6, lw_okq q := List.forall_mem_cons.mpr ⟨lw_p80, List.forall_mem_cons.mpr ⟨lw_p81, List.forall_mem_cons.mpr ⟨lw_p82, List.forall_mem_cons.mpr ⟨lw_p83, List.forall_mem_cons.mpr ⟨lw_p84, List.forall_mem_cons.mpr ⟨lw_p85, List.forall_mem_cons.mpr ⟨lw_p86, List.forall_mem_cons.mpr ⟨lw_p87, List.forall_mem_cons.mpr ⟨lw_p88, List.forall_mem_cons.mpr ⟨lw_p89, List.forall_mem_cons.mpr ⟨lw_p90, List.forall_mem_cons.mpr ⟨lw_p91, List.forall_mem_cons.mpr ⟨lw_p92, List.forall_mem_cons.mpr ⟨lw_p93, List.forall_mem_cons.mpr ⟨lw_p94, List.forall_mem_cons.mpr ⟨lw_p95, fun _ h => absurd h List.not_mem_nil⟩⟩⟩⟩⟩⟩⟩⟩⟩⟩⟩⟩⟩⟩⟩⟩
theorem lw_p96 : lw_okq (⟨"BeastCaveModel", "isBeast", "(I)Z"⟩, 50) := ⟨⟨by decide +kernel, by decide +kernel⟩, List.mem_of_getElem? (i := 1363) (by decide +kernel), List.mem_of_getElem? (i := 1796) (by decide +kernel), List.mem_of_getElem? (i := 1797) (by decide +kernel)⟩
theorem lw_p97 : lw_okq (⟨"BeastCaveModel", "whoIs", "(I)I"⟩, 50) := ⟨⟨by decide +kernel, by decide +kernel⟩, List.mem_of_getElem? (i := 1363) (by decide +kernel), List.mem_of_getElem? (i := 1804) (by decide +kernel), List.mem_of_getElem? (i := 1805) (by decide +kernel)⟩
theorem lw_p98 : lw_okq (⟨"BeastCaveModel", "orNone", "(I)I"⟩, 50) := ⟨⟨by decide +kernel, by decide +kernel⟩, List.mem_of_getElem? (i := 1363) (by decide +kernel), List.mem_of_getElem? (i := 1808) (by decide +kernel), List.mem_of_getElem? (i := 1809) (by decide +kernel)⟩
theorem lw_p99 : lw_okq (⟨"BeastCaveModel", "isFigure", "(I)Z"⟩, 50) := ⟨⟨by decide +kernel, by decide +kernel⟩, List.mem_of_getElem? (i := 1363) (by decide +kernel), List.mem_of_getElem? (i := 1816) (by decide +kernel), List.mem_of_getElem? (i := 1817) (by decide +kernel)⟩
theorem lw_p100 : lw_okq (⟨"BeastCaveModel", "figureOf", "(II)I"⟩, 50) := ⟨⟨by decide +kernel, by decide +kernel⟩, List.mem_of_getElem? (i := 1363) (by decide +kernel), List.mem_of_getElem? (i := 1820) (by decide +kernel), List.mem_of_getElem? (i := 1821) (by decide +kernel)⟩
theorem lw_p101 : lw_okq (⟨"BeastCaveModel", "weightOf", "(II)I"⟩, 50) := ⟨⟨by decide +kernel, by decide +kernel⟩, List.mem_of_getElem? (i := 1363) (by decide +kernel), List.mem_of_getElem? (i := 1828) (by decide +kernel), List.mem_of_getElem? (i := 1829) (by decide +kernel)⟩
theorem lw_p102 : lw_okq (⟨"BeastCaveModel", "minutesGo", "(I)I"⟩, 50) := ⟨⟨by decide +kernel, by decide +kernel⟩, List.mem_of_getElem? (i := 1363) (by decide +kernel), List.mem_of_getElem? (i := 1840) (by decide +kernel), List.mem_of_getElem? (i := 1841) (by decide +kernel)⟩
theorem lw_p103 : lw_okq (⟨"BeastCaveModel", "minuteGoes", "()I"⟩, 50) := ⟨⟨by decide +kernel, by decide +kernel⟩, List.mem_of_getElem? (i := 1363) (by decide +kernel), List.mem_of_getElem? (i := 1844) (by decide +kernel), List.mem_of_getElem? (i := 1845) (by decide +kernel)⟩
theorem lw_p104 : lw_okq (⟨"BeastCaveModel", "looksAt", "(II)V"⟩, 50) := ⟨⟨by decide +kernel, by decide +kernel⟩, List.mem_of_getElem? (i := 1363) (by decide +kernel), List.mem_of_getElem? (i := 1848) (by decide +kernel), List.mem_of_getElem? (i := 1849) (by decide +kernel)⟩
theorem lw_p105 : lw_okq (⟨"BeastCaveModel", "leads", "(II)Z"⟩, 50) := ⟨⟨by decide +kernel, by decide +kernel⟩, List.mem_of_getElem? (i := 1363) (by decide +kernel), List.mem_of_getElem? (i := 1860) (by decide +kernel), List.mem_of_getElem? (i := 1861) (by decide +kernel)⟩
theorem lw_p106 : lw_okq (⟨"BeastCaveModel", "wayOf", "(II)I"⟩, 50) := ⟨⟨by decide +kernel, by decide +kernel⟩, List.mem_of_getElem? (i := 1363) (by decide +kernel), List.mem_of_getElem? (i := 1864) (by decide +kernel), List.mem_of_getElem? (i := 1865) (by decide +kernel)⟩
theorem lw_p107 : lw_okq (⟨"BeastCaveModel", "wakes", "(I)Z"⟩, 50) := ⟨⟨by decide +kernel, by decide +kernel⟩, List.mem_of_getElem? (i := 1363) (by decide +kernel), List.mem_of_getElem? (i := 1873) (by decide +kernel), List.mem_of_getElem? (i := 1874) (by decide +kernel)⟩
theorem lw_p108 : lw_okq (⟨"BeastCaveModel", "fills", "(I)Z"⟩, 50) := ⟨⟨by decide +kernel, by decide +kernel⟩, List.mem_of_getElem? (i := 1363) (by decide +kernel), List.mem_of_getElem? (i := 1882) (by decide +kernel), List.mem_of_getElem? (i := 1883) (by decide +kernel)⟩
theorem lw_p109 : lw_okq (⟨"BeastCaveModel", "isIn", "(II)Z"⟩, 50) := ⟨⟨by decide +kernel, by decide +kernel⟩, List.mem_of_getElem? (i := 1363) (by decide +kernel), List.mem_of_getElem? (i := 1908) (by decide +kernel), List.mem_of_getElem? (i := 1909) (by decide +kernel)⟩
theorem lw_p110 : lw_okq (⟨"BeastCaveModel", "keeps", "(I)V"⟩, 50) := ⟨⟨by decide +kernel, by decide +kernel⟩, List.mem_of_getElem? (i := 1363) (by decide +kernel), List.mem_of_getElem? (i := 1925) (by decide +kernel), List.mem_of_getElem? (i := 1926) (by decide +kernel)⟩
theorem lw_p111 : lw_okq (⟨"BeastCaveModel", "restores", "(I)V"⟩, 50) := ⟨⟨by decide +kernel, by decide +kernel⟩, List.mem_of_getElem? (i := 1363) (by decide +kernel), List.mem_of_getElem? (i := 1929) (by decide +kernel), List.mem_of_getElem? (i := 1930) (by decide +kernel)⟩
def lw_privs_7 : List (MethodName × Nat) := [(⟨"BeastCaveModel", "isBeast", "(I)Z"⟩, 50), (⟨"BeastCaveModel", "whoIs", "(I)I"⟩, 50), (⟨"BeastCaveModel", "orNone", "(I)I"⟩, 50), (⟨"BeastCaveModel", "isFigure", "(I)Z"⟩, 50), (⟨"BeastCaveModel", "figureOf", "(II)I"⟩, 50), (⟨"BeastCaveModel", "weightOf", "(II)I"⟩, 50), (⟨"BeastCaveModel", "minutesGo", "(I)I"⟩, 50), (⟨"BeastCaveModel", "minuteGoes", "()I"⟩, 50), (⟨"BeastCaveModel", "looksAt", "(II)V"⟩, 50), (⟨"BeastCaveModel", "leads", "(II)Z"⟩, 50), (⟨"BeastCaveModel", "wayOf", "(II)I"⟩, 50), (⟨"BeastCaveModel", "wakes", "(I)Z"⟩, 50), (⟨"BeastCaveModel", "fills", "(I)Z"⟩, 50), (⟨"BeastCaveModel", "isIn", "(II)Z"⟩, 50), (⟨"BeastCaveModel", "keeps", "(I)V"⟩, 50), (⟨"BeastCaveModel", "restores", "(I)V"⟩, 50)]
theorem lw_r7 : ∀ q ∈ lw_privs_7, lw_okq q := List.forall_mem_cons.mpr ⟨lw_p96, List.forall_mem_cons.mpr ⟨lw_p97, List.forall_mem_cons.mpr ⟨lw_p98, List.forall_mem_cons.mpr ⟨lw_p99, List.forall_mem_cons.mpr ⟨lw_p100, List.forall_mem_cons.mpr ⟨lw_p101, List.forall_mem_cons.mpr ⟨lw_p102, List.forall_mem_cons.mpr ⟨lw_p103, List.forall_mem_cons.mpr ⟨lw_p104, List.forall_mem_cons.mpr ⟨lw_p105, List.forall_mem_cons.mpr ⟨lw_p106, List.forall_mem_cons.mpr ⟨lw_p107, List.forall_mem_cons.mpr ⟨lw_p108, List.forall_mem_cons.mpr ⟨lw_p109, List.forall_mem_cons.mpr ⟨lw_p110, List.forall_mem_cons.mpr ⟨lw_p111, fun _ h => absurd h List.not_mem_nil⟩⟩⟩⟩⟩⟩⟩⟩⟩⟩⟩⟩⟩⟩⟩⟩
theorem lw_p112 : lw_okq (⟨"BeastCaveModel", "laysFar", "()V"⟩, 50) := ⟨⟨by decide +kernel, by decide +kernel⟩, List.mem_of_getElem? (i := 1363) (by decide +kernel), List.mem_of_getElem? (i := 1953) (by decide +kernel), List.mem_of_getElem? (i := 1954) (by decide +kernel)⟩
theorem lw_p113 : lw_okq (⟨"BeastCaveModel", "wrongTour", "(III)I"⟩, 50) := ⟨⟨by decide +kernel, by decide +kernel⟩, List.mem_of_getElem? (i := 1363) (by decide +kernel), List.mem_of_getElem? (i := 1965) (by decide +kernel), List.mem_of_getElem? (i := 1966) (by decide +kernel)⟩
theorem lw_p114 : lw_okq (⟨"BeastCaveModel", "laysTour", "(III)V"⟩, 50) := ⟨⟨by decide +kernel, by decide +kernel⟩, List.mem_of_getElem? (i := 1363) (by decide +kernel), List.mem_of_getElem? (i := 1969) (by decide +kernel), List.mem_of_getElem? (i := 1970) (by decide +kernel)⟩
theorem lw_p115 : lw_okq (⟨"BeastCaveModel", "isTried", "(I)Z"⟩, 50) := ⟨⟨by decide +kernel, by decide +kernel⟩, List.mem_of_getElem? (i := 1363) (by decide +kernel), List.mem_of_getElem? (i := 1976) (by decide +kernel), List.mem_of_getElem? (i := 1977) (by decide +kernel)⟩
theorem lw_p116 : lw_okq (⟨"BeastCaveModel", "visits", "(III)Z"⟩, 50) := ⟨⟨by decide +kernel, by decide +kernel⟩, List.mem_of_getElem? (i := 1363) (by decide +kernel), List.mem_of_getElem? (i := 1980) (by decide +kernel), List.mem_of_getElem? (i := 1981) (by decide +kernel)⟩
theorem lw_p117 : lw_okq (⟨"BeastCaveModel", "laysLayers", "()I"⟩, 50) := ⟨⟨by decide +kernel, by decide +kernel⟩, List.mem_of_getElem? (i := 1363) (by decide +kernel), List.mem_of_getElem? (i := 1992) (by decide +kernel), List.mem_of_getElem? (i := 1993) (by decide +kernel)⟩
theorem lw_p118 : lw_okq (⟨"BeastCaveModel", "mayCome", "(II)Z"⟩, 50) := ⟨⟨by decide +kernel, by decide +kernel⟩, List.mem_of_getElem? (i := 1363) (by decide +kernel), List.mem_of_getElem? (i := 1996) (by decide +kernel), List.mem_of_getElem? (i := 1997) (by decide +kernel)⟩
theorem lw_p119 : lw_okq (⟨"BeastCaveModel", "isHand", "(II)Z"⟩, 50) := ⟨⟨by decide +kernel, by decide +kernel⟩, List.mem_of_getElem? (i := 1363) (by decide +kernel), List.mem_of_getElem? (i := 2013) (by decide +kernel), List.mem_of_getElem? (i := 2014) (by decide +kernel)⟩
theorem lw_p120 : lw_okq (⟨"BeastCaveModel", "differ", "(II)I"⟩, 50) := ⟨⟨by decide +kernel, by decide +kernel⟩, List.mem_of_getElem? (i := 1363) (by decide +kernel), List.mem_of_getElem? (i := 2017) (by decide +kernel), List.mem_of_getElem? (i := 2018) (by decide +kernel)⟩
theorem lw_p121 : lw_okq (⟨"BeastCaveModel", "laysRows", "(I)V"⟩, 50) := ⟨⟨by decide +kernel, by decide +kernel⟩, List.mem_of_getElem? (i := 1363) (by decide +kernel), List.mem_of_getElem? (i := 2030) (by decide +kernel), List.mem_of_getElem? (i := 2031) (by decide +kernel)⟩
theorem lw_p122 : lw_okq (⟨"BeastCaveModel", "laysLikeliest", "(I)I"⟩, 50) := ⟨⟨by decide +kernel, by decide +kernel⟩, List.mem_of_getElem? (i := 1363) (by decide +kernel), List.mem_of_getElem? (i := 2043) (by decide +kernel), List.mem_of_getElem? (i := 2044) (by decide +kernel)⟩
theorem lw_p123 : lw_okq (⟨"BeastCaveModel", "wrongSeen", "(III)I"⟩, 50) := ⟨⟨by decide +kernel, by decide +kernel⟩, List.mem_of_getElem? (i := 1363) (by decide +kernel), List.mem_of_getElem? (i := 2055) (by decide +kernel), List.mem_of_getElem? (i := 2056) (by decide +kernel)⟩
theorem lw_p124 : lw_okq (⟨"BeastCaveModel", "laysFits", "(III)V"⟩, 50) := ⟨⟨by decide +kernel, by decide +kernel⟩, List.mem_of_getElem? (i := 1363) (by decide +kernel), List.mem_of_getElem? (i := 2060) (by decide +kernel), List.mem_of_getElem? (i := 2061) (by decide +kernel)⟩
theorem lw_p125 : lw_okq (⟨"BeastCaveModel", "wouldBe", "(II)I"⟩, 50) := ⟨⟨by decide +kernel, by decide +kernel⟩, List.mem_of_getElem? (i := 1363) (by decide +kernel), List.mem_of_getElem? (i := 2064) (by decide +kernel), List.mem_of_getElem? (i := 2065) (by decide +kernel)⟩
theorem lw_p126 : lw_okq (⟨"BeastCaveModel", "mostAlike", "(I)I"⟩, 50) := ⟨⟨by decide +kernel, by decide +kernel⟩, List.mem_of_getElem? (i := 1363) (by decide +kernel), List.mem_of_getElem? (i := 2076) (by decide +kernel), List.mem_of_getElem? (i := 2077) (by decide +kernel)⟩
theorem lw_p127 : lw_okq (⟨"BeastCaveModel", "playing", "(II)I"⟩, 50) := ⟨⟨by decide +kernel, by decide +kernel⟩, List.mem_of_getElem? (i := 1363) (by decide +kernel), List.mem_of_getElem? (i := 2085) (by decide +kernel), List.mem_of_getElem? (i := 2086) (by decide +kernel)⟩
def lw_privs_8 : List (MethodName × Nat) := [(⟨"BeastCaveModel", "laysFar", "()V"⟩, 50), (⟨"BeastCaveModel", "wrongTour", "(III)I"⟩, 50), (⟨"BeastCaveModel", "laysTour", "(III)V"⟩, 50), (⟨"BeastCaveModel", "isTried", "(I)Z"⟩, 50), (⟨"BeastCaveModel", "visits", "(III)Z"⟩, 50), (⟨"BeastCaveModel", "laysLayers", "()I"⟩, 50), (⟨"BeastCaveModel", "mayCome", "(II)Z"⟩, 50), (⟨"BeastCaveModel", "isHand", "(II)Z"⟩, 50), (⟨"BeastCaveModel", "differ", "(II)I"⟩, 50), (⟨"BeastCaveModel", "laysRows", "(I)V"⟩, 50), (⟨"BeastCaveModel", "laysLikeliest", "(I)I"⟩, 50), (⟨"BeastCaveModel", "wrongSeen", "(III)I"⟩, 50), (⟨"BeastCaveModel", "laysFits", "(III)V"⟩, 50), (⟨"BeastCaveModel", "wouldBe", "(II)I"⟩, 50), (⟨"BeastCaveModel", "mostAlike", "(I)I"⟩, 50), (⟨"BeastCaveModel", "playing", "(II)I"⟩, 50)]
theorem lw_r8 : ∀ q ∈ lw_privs_8, lw_okq q := List.forall_mem_cons.mpr ⟨lw_p112, List.forall_mem_cons.mpr ⟨lw_p113, List.forall_mem_cons.mpr ⟨lw_p114, List.forall_mem_cons.mpr ⟨lw_p115, List.forall_mem_cons.mpr ⟨lw_p116, List.forall_mem_cons.mpr ⟨lw_p117, List.forall_mem_cons.mpr ⟨lw_p118, List.forall_mem_cons.mpr ⟨lw_p119, List.forall_mem_cons.mpr ⟨lw_p120, List.forall_mem_cons.mpr ⟨lw_p121, List.forall_mem_cons.mpr ⟨lw_p122, List.forall_mem_cons.mpr ⟨lw_p123, List.forall_mem_cons.mpr ⟨lw_p124, List.forall_mem_cons.mpr ⟨lw_p125, List.forall_mem_cons.mpr ⟨lw_p126, List.forall_mem_cons.mpr ⟨lw_p127, fun _ h => absurd h List.not_mem_nil⟩⟩⟩⟩⟩⟩⟩⟩⟩⟩⟩⟩⟩⟩⟩⟩
theorem lw_p128 : lw_okq (⟨"BeastCaveModel", "standing", "(I)I"⟩, 50) := ⟨⟨by decide +kernel, by decide +kernel⟩, List.mem_of_getElem? (i := 1363) (by decide +kernel), List.mem_of_getElem? (i := 2089) (by decide +kernel), List.mem_of_getElem? (i := 2090) (by decide +kernel)⟩
theorem lw_p129 : lw_okq (⟨"BeastCaveModel", "settles", "(II)V"⟩, 50) := ⟨⟨by decide +kernel, by decide +kernel⟩, List.mem_of_getElem? (i := 1363) (by decide +kernel), List.mem_of_getElem? (i := 2093) (by decide +kernel), List.mem_of_getElem? (i := 2094) (by decide +kernel)⟩
theorem lw_p130 : lw_okq (⟨"BeastCaveModel", "doesDeed", "(IIZ)Z"⟩, 50) := ⟨⟨by decide +kernel, by decide +kernel⟩, List.mem_of_getElem? (i := 1363) (by decide +kernel), List.mem_of_getElem? (i := 2097) (by decide +kernel), List.mem_of_getElem? (i := 2098) (by decide +kernel)⟩
theorem lw_p131 : lw_okq (⟨"BeastCaveModel", "tellsBy", "(JJ)Z"⟩, 50) := ⟨⟨by decide +kernel, by decide +kernel⟩, List.mem_of_getElem? (i := 1363) (by decide +kernel), List.mem_of_getElem? (i := 2109) (by decide +kernel), List.mem_of_getElem? (i := 2110) (by decide +kernel)⟩
theorem lw_p132 : lw_okq (⟨"BeastCaveModel", "lives", "(I)V"⟩, 50) := ⟨⟨by decide +kernel, by decide +kernel⟩, List.mem_of_getElem? (i := 1363) (by decide +kernel), List.mem_of_getElem? (i := 2122) (by decide +kernel), List.mem_of_getElem? (i := 2123) (by decide +kernel)⟩
theorem lw_p133 : lw_okq (⟨"BeastCaveModel", "does", "(I)Z"⟩, 50) := ⟨⟨by decide +kernel, by decide +kernel⟩, List.mem_of_getElem? (i := 1363) (by decide +kernel), List.mem_of_getElem? (i := 2126) (by decide +kernel), List.mem_of_getElem? (i := 2127) (by decide +kernel)⟩
theorem lw_p134 : lw_okq (⟨"BeastCaveModel", "minutesBy", "(I)Z"⟩, 50) := ⟨⟨by decide +kernel, by decide +kernel⟩, List.mem_of_getElem? (i := 1363) (by decide +kernel), List.mem_of_getElem? (i := 2130) (by decide +kernel), List.mem_of_getElem? (i := 2131) (by decide +kernel)⟩
theorem lw_p135 : lw_okq (⟨"BeastCaveModel", "leadsBy", "(II)Z"⟩, 50) := ⟨⟨by decide +kernel, by decide +kernel⟩, List.mem_of_getElem? (i := 1363) (by decide +kernel), List.mem_of_getElem? (i := 2134) (by decide +kernel), List.mem_of_getElem? (i := 2135) (by decide +kernel)⟩
theorem lw_p136 : lw_okq (⟨"BeastCaveModel", "leadsAny", "()Z"⟩, 50) := ⟨⟨by decide +kernel, by decide +kernel⟩, List.mem_of_getElem? (i := 1363) (by decide +kernel), List.mem_of_getElem? (i := 2138) (by decide +kernel), List.mem_of_getElem? (i := 2139) (by decide +kernel)⟩
theorem lw_p137 : lw_okq (⟨"BeastCaveModel", "drawing", "(I)I"⟩, 50) := ⟨⟨by decide +kernel, by decide +kernel⟩, List.mem_of_getElem? (i := 1363) (by decide +kernel), List.mem_of_getElem? (i := 2142) (by decide +kernel), List.mem_of_getElem? (i := 2143) (by decide +kernel)⟩
theorem lw_p138 : lw_okq (⟨"BeastCaveModel", "holds", "(I)Z"⟩, 50) := ⟨⟨by decide +kernel, by decide +kernel⟩, List.mem_of_getElem? (i := 1363) (by decide +kernel), List.mem_of_getElem? (i := 2147) (by decide +kernel), List.mem_of_getElem? (i := 2148) (by decide +kernel)⟩
theorem lw_p139 : lw_okq (⟨"BeastCaveModel", "behindEnds", "(I)I"⟩, 50) := ⟨⟨by decide +kernel, by decide +kernel⟩, List.mem_of_getElem? (i := 1363) (by decide +kernel), List.mem_of_getElem? (i := 2151) (by decide +kernel), List.mem_of_getElem? (i := 2152) (by decide +kernel)⟩
theorem lw_p140 : lw_okq (⟨"BeastCaveModel", "copies", "(II)V"⟩, 50) := ⟨⟨by decide +kernel, by decide +kernel⟩, List.mem_of_getElem? (i := 1363) (by decide +kernel), List.mem_of_getElem? (i := 2167) (by decide +kernel), List.mem_of_getElem? (i := 2168) (by decide +kernel)⟩
def lw_privs_9 : List (MethodName × Nat) := [(⟨"BeastCaveModel", "standing", "(I)I"⟩, 50), (⟨"BeastCaveModel", "settles", "(II)V"⟩, 50), (⟨"BeastCaveModel", "doesDeed", "(IIZ)Z"⟩, 50), (⟨"BeastCaveModel", "tellsBy", "(JJ)Z"⟩, 50), (⟨"BeastCaveModel", "lives", "(I)V"⟩, 50), (⟨"BeastCaveModel", "does", "(I)Z"⟩, 50), (⟨"BeastCaveModel", "minutesBy", "(I)Z"⟩, 50), (⟨"BeastCaveModel", "leadsBy", "(II)Z"⟩, 50), (⟨"BeastCaveModel", "leadsAny", "()Z"⟩, 50), (⟨"BeastCaveModel", "drawing", "(I)I"⟩, 50), (⟨"BeastCaveModel", "holds", "(I)Z"⟩, 50), (⟨"BeastCaveModel", "behindEnds", "(I)I"⟩, 50), (⟨"BeastCaveModel", "copies", "(II)V"⟩, 50)]
theorem lw_r9 : ∀ q ∈ lw_privs_9, lw_okq q := List.forall_mem_cons.mpr ⟨lw_p128, List.forall_mem_cons.mpr ⟨lw_p129, List.forall_mem_cons.mpr ⟨lw_p130, List.forall_mem_cons.mpr ⟨lw_p131, List.forall_mem_cons.mpr ⟨lw_p132, List.forall_mem_cons.mpr ⟨lw_p133, List.forall_mem_cons.mpr ⟨lw_p134, List.forall_mem_cons.mpr ⟨lw_p135, List.forall_mem_cons.mpr ⟨lw_p136, List.forall_mem_cons.mpr ⟨lw_p137, List.forall_mem_cons.mpr ⟨lw_p138, List.forall_mem_cons.mpr ⟨lw_p139, List.forall_mem_cons.mpr ⟨lw_p140, fun _ h => absurd h List.not_mem_nil⟩⟩⟩⟩⟩⟩⟩⟩⟩⟩⟩⟩⟩
def lw_privs : List (MethodName × Nat) := lw_privs_1 ++ (lw_privs_2 ++ (lw_privs_3 ++ (lw_privs_4 ++ (lw_privs_5 ++ (lw_privs_6 ++ (lw_privs_7 ++ (lw_privs_8 ++ (lw_privs_9))))))))
def lw_tbl : List Cond := k2_sels lw_privs ++ tables_1
theorem lw_privs_ok : ∀ q ∈ lw_privs, lw_okq q := by
  show ∀ q ∈ lw_privs_1 ++ (lw_privs_2 ++ (lw_privs_3 ++ (lw_privs_4 ++ (lw_privs_5 ++ (lw_privs_6 ++ (lw_privs_7 ++ (lw_privs_8 ++ (lw_privs_9)))))))), lw_okq q
  exact List.forall_mem_append.mpr ⟨lw_r1, List.forall_mem_append.mpr ⟨lw_r2, List.forall_mem_append.mpr ⟨lw_r3, List.forall_mem_append.mpr ⟨lw_r4, List.forall_mem_append.mpr ⟨lw_r5, List.forall_mem_append.mpr ⟨lw_r6, List.forall_mem_append.mpr ⟨lw_r7, List.forall_mem_append.mpr ⟨lw_r8, lw_r9⟩⟩⟩⟩⟩⟩⟩⟩
end
section
def RX0 : String := "BeastCave$Ahead"
def TX0 : u_T := fun k => match k with
  | 0 => ("BeastCave$Ahead", "row", "[I", true)
  | 1 => ("BeastCave$Ahead", "most", "[I", true)
  | _ => ("BeastCave$Ahead", "first", "[I", true)
def tyX0 : Nat → FieldType := fun k => match k with
  | 0 => .array .int
  | 1 => .array .int
  | _ => .array .int
abbrev wsX00 : List Cond := u_ws RX0 TX0 3
theorem nmX0 : ∀ a, a < 3 → ∀ b, b < 3 → a ≠ b → (TX0 a).2.1 ≠ (TX0 b).2.1 := by decide +kernel
theorem tyX0_ok : ∀ k, k < 3 → parseFieldDescriptor (TX0 k).2.2.1 = some (tyX0 k) := by decide +kernel
def RX1 : String := "BeastCave$Beasts"
def TX1 : u_T := fun k => match k with
  | 0 => ("BeastCave$Beasts", "count", "I", false)
  | _ => ("BeastCave$Beasts", "weights", "[I", true)
def tyX1 : Nat → FieldType := fun k => match k with
  | 0 => .int
  | _ => .array .int
abbrev wsX10 : List Cond := u_ws RX1 TX1 2
theorem nmX1 : ∀ a, a < 2 → ∀ b, b < 2 → a ≠ b → (TX1 a).2.1 ≠ (TX1 b).2.1 := by decide +kernel
theorem tyX1_ok : ∀ k, k < 2 → parseFieldDescriptor (TX1 k).2.2.1 = some (tyX1 k) := by decide +kernel
def RX2 : String := "BeastCave$Cave"
def TX2 : u_T := fun k => match k with
  | 0 => ("BeastCave$Cave", "lamp", "I", false)
  | 1 => ("BeastCave$Cave", "odds", "I", false)
  | 2 => ("BeastCave$Cave", "minutes", "I", false)
  | 3 => ("BeastCave$Cave", "visitors", "I", false)
  | 4 => ("BeastCave$Cave", "beasts", "LBeastCave$Beasts;", true)
  | 5 => ("BeastCave$Cave", "walls", "LBeastCave$Walls;", true)
  | 6 => ("BeastCave$Cave", "figures", "LBeastCave$Figures;", true)
  | 7 => ("BeastCave$Cave", "selves", "[I", true)
  | 8 => ("BeastCave$Cave", "places", "[I", true)
  | 9 => ("BeastCave$Cave", "toGo", "[I", true)
  | 10 => ("BeastCave$Cave", "measures", "[I", true)
  | 11 => ("BeastCave$Cave", "names", "I", false)
  | 12 => ("BeastCave$Cave", "nameCodes", "[J", true)
  | 13 => ("BeastCave$Cave", "nameKinds", "[I", true)
  | _ => ("BeastCave$Cave", "nameNumbers", "[I", true)
def tyX2 : Nat → FieldType := fun k => match k with
  | 0 => .int
  | 1 => .int
  | 2 => .int
  | 3 => .int
  | 4 => .object "BeastCave$Beasts"
  | 5 => .object "BeastCave$Walls"
  | 6 => .object "BeastCave$Figures"
  | 7 => .array .int
  | 8 => .array .int
  | 9 => .array .int
  | 10 => .array .int
  | 11 => .int
  | 12 => .array .long
  | 13 => .array .int
  | _ => .array .int
abbrev wsX20 : List Cond := u_ws RX2 TX2 15
theorem nmX2 : ∀ a, a < 15 → ∀ b, b < 15 → a ≠ b → (TX2 a).2.1 ≠ (TX2 b).2.1 := by decide +kernel
theorem tyX2_ok : ∀ k, k < 15 → parseFieldDescriptor (TX2 k).2.2.1 = some (tyX2 k) := by decide +kernel
def RX3 : String := "BeastCave$Days"
def TX3 : u_T := fun k => match k with
  | 0 => ("BeastCave$Days", "isTold", "Z", false)
  | 1 => ("BeastCave$Days", "steps", "I", false)
  | 2 => ("BeastCave$Days", "lines", "I", false)
  | 3 => ("BeastCave$Days", "kinds", "[I", true)
  | 4 => ("BeastCave$Days", "tests", "[I", true)
  | 5 => ("BeastCave$Days", "visitors", "[I", true)
  | 6 => ("BeastCave$Days", "numbers", "[I", true)
  | _ => ("BeastCave$Days", "partners", "[I", true)
def tyX3 : Nat → FieldType := fun k => match k with
  | 0 => .boolean
  | 1 => .int
  | 2 => .int
  | 3 => .array .int
  | 4 => .array .int
  | 5 => .array .int
  | 6 => .array .int
  | _ => .array .int
abbrev wsX30 : List Cond := u_ws RX3 TX3 8
theorem nmX3 : ∀ a, a < 8 → ∀ b, b < 8 → a ≠ b → (TX3 a).2.1 ≠ (TX3 b).2.1 := by decide +kernel
theorem tyX3_ok : ∀ k, k < 8 → parseFieldDescriptor (TX3 k).2.2.1 = some (tyX3 k) := by decide +kernel
def RX4 : String := "BeastCave$Figures"
def TX4 : u_T := fun k => match k with
  | 0 => ("BeastCave$Figures", "count", "I", false)
  | 1 => ("BeastCave$Figures", "beast", "[I", true)
  | 2 => ("BeastCave$Figures", "style", "[I", true)
  | 3 => ("BeastCave$Figures", "other", "[I", true)
  | _ => ("BeastCave$Figures", "over", "[I", true)
def tyX4 : Nat → FieldType := fun k => match k with
  | 0 => .int
  | 1 => .array .int
  | 2 => .array .int
  | 3 => .array .int
  | _ => .array .int
abbrev wsX40 : List Cond := u_ws RX4 TX4 5
theorem nmX4 : ∀ a, a < 5 → ∀ b, b < 5 → a ≠ b → (TX4 a).2.1 ≠ (TX4 b).2.1 := by decide +kernel
theorem tyX4_ok : ∀ k, k < 5 → parseFieldDescriptor (TX4 k).2.2.1 = some (tyX4 k) := by decide +kernel
def RX5 : String := "BeastCave$Life"
def TX5 : u_T := fun k => match k with
  | 0 => ("BeastCave$Life", "steps", "I", false)
  | 1 => ("BeastCave$Life", "missed", "I", false)
  | 2 => ("BeastCave$Life", "minutes", "I", false)
  | 3 => ("BeastCave$Life", "led", "I", false)
  | 4 => ("BeastCave$Life", "turned", "I", false)
  | 5 => ("BeastCave$Life", "left", "I", false)
  | 6 => ("BeastCave$Life", "cave", "LBeastCave$Cave;", false)
  | 7 => ("BeastCave$Life", "days", "LBeastCave$Days;", false)
  | 8 => ("BeastCave$Life", "seed", "I", false)
  | _ => ("BeastCave$Life", "rounds", "[I", true)
def tyX5 : Nat → FieldType := fun k => match k with
  | 0 => .int
  | 1 => .int
  | 2 => .int
  | 3 => .int
  | 4 => .int
  | 5 => .int
  | 6 => .object "BeastCave$Cave"
  | 7 => .object "BeastCave$Days"
  | 8 => .int
  | _ => .array .int
abbrev wsX50 : List Cond := u_ws RX5 TX5 10
theorem nmX5 : ∀ a, a < 10 → ∀ b, b < 10 → a ≠ b → (TX5 a).2.1 ≠ (TX5 b).2.1 := by decide +kernel
theorem tyX5_ok : ∀ k, k < 10 → parseFieldDescriptor (TX5 k).2.2.1 = some (tyX5 k) := by decide +kernel
def RX6 : String := "BeastCave$Reader"
def TX6 : u_T := fun k => match k with
  | 0 => ("BeastCave$Reader", "text", "LBeastCave$Text;", true)
  | 1 => ("BeastCave$Reader", "cave", "LBeastCave$Cave;", false)
  | 2 => ("BeastCave$Reader", "days", "LBeastCave$Days;", false)
  | 3 => ("BeastCave$Reader", "lampTold", "Z", false)
  | 4 => ("BeastCave$Reader", "oddsTold", "Z", false)
  | 5 => ("BeastCave$Reader", "found", "[I", true)
  | 6 => ("BeastCave$Reader", "depth", "I", false)
  | 7 => ("BeastCave$Reader", "open", "[I", true)
  | _ => ("BeastCave$Reader", "test", "I", false)
def tyX6 : Nat → FieldType := fun k => match k with
  | 0 => .object "BeastCave$Text"
  | 1 => .object "BeastCave$Cave"
  | 2 => .object "BeastCave$Days"
  | 3 => .boolean
  | 4 => .boolean
  | 5 => .array .int
  | 6 => .int
  | 7 => .array .int
  | _ => .int
abbrev wsX60 : List Cond := u_ws RX6 TX6 9
theorem nmX6 : ∀ a, a < 9 → ∀ b, b < 9 → a ≠ b → (TX6 a).2.1 ≠ (TX6 b).2.1 := by decide +kernel
theorem tyX6_ok : ∀ k, k < 9 → parseFieldDescriptor (TX6 k).2.2.1 = some (tyX6 k) := by decide +kernel
def RX7 : String := "BeastCave$Search"
def TX7 : u_T := fun k => match k with
  | 0 => ("BeastCave$Search", "bestTime", "I", false)
  | 1 => ("BeastCave$Search", "bestOrder", "[I", true)
  | 2 => ("BeastCave$Search", "firstMove", "I", false)
  | 3 => ("BeastCave$Search", "order", "[I", true)
  | 4 => ("BeastCave$Search", "rows", "[I", true)
  | 5 => ("BeastCave$Search", "pulls", "[I", true)
  | 6 => ("BeastCave$Search", "walls", "LBeastCave$Walls;", false)
  | 7 => ("BeastCave$Search", "self", "I", false)
  | 8 => ("BeastCave$Search", "lamp", "I", false)
  | 9 => ("BeastCave$Search", "stay", "I", false)
  | _ => ("BeastCave$Search", "turns", "I", false)
def tyX7 : Nat → FieldType := fun k => match k with
  | 0 => .int
  | 1 => .array .int
  | 2 => .int
  | 3 => .array .int
  | 4 => .array .int
  | 5 => .array .int
  | 6 => .object "BeastCave$Walls"
  | 7 => .int
  | 8 => .int
  | 9 => .int
  | _ => .int
abbrev wsX70 : List Cond := u_ws RX7 TX7 11
theorem nmX7 : ∀ a, a < 11 → ∀ b, b < 11 → a ≠ b → (TX7 a).2.1 ≠ (TX7 b).2.1 := by decide +kernel
theorem tyX7_ok : ∀ k, k < 11 → parseFieldDescriptor (TX7 k).2.2.1 = some (tyX7 k) := by decide +kernel
def RX8 : String := "BeastCave$Text"
def TX8 : u_T := fun k => match k with
  | 0 => ("BeastCave$Text", "size", "I", false)
  | 1 => ("BeastCave$Text", "fault", "I", false)
  | 2 => ("BeastCave$Text", "faultPlace", "I", false)
  | 3 => ("BeastCave$Text", "number", "I", false)
  | 4 => ("BeastCave$Text", "keyword", "I", false)
  | 5 => ("BeastCave$Text", "code", "J", false)
  | 6 => ("BeastCave$Text", "sign", "I", false)
  | 7 => ("BeastCave$Text", "tape", "[B", true)
  | 8 => ("BeastCave$Text", "reservedCodes", "[J", true)
  | 9 => ("BeastCave$Text", "end", "I", false)
  | 10 => ("BeastCave$Text", "next", "I", false)
  | 11 => ("BeastCave$Text", "place", "I", false)
  | 12 => ("BeastCave$Text", "sort", "I", false)
  | 13 => ("BeastCave$Text", "letters", "I", false)
  | _ => ("BeastCave$Text", "value", "I", false)
def tyX8 : Nat → FieldType := fun k => match k with
  | 0 => .int
  | 1 => .int
  | 2 => .int
  | 3 => .int
  | 4 => .int
  | 5 => .long
  | 6 => .int
  | 7 => .array .byte
  | 8 => .array .long
  | 9 => .int
  | 10 => .int
  | 11 => .int
  | 12 => .int
  | 13 => .int
  | _ => .int
abbrev wsX80 : List Cond := u_ws RX8 TX8 15
theorem nmX8 : ∀ a, a < 15 → ∀ b, b < 15 → a ≠ b → (TX8 a).2.1 ≠ (TX8 b).2.1 := by decide +kernel
theorem tyX8_ok : ∀ k, k < 15 → parseFieldDescriptor (TX8 k).2.2.1 = some (tyX8 k) := by decide +kernel
def RX9 : String := "BeastCave$Trays"
def TX9 : u_T := fun k => match k with
  | 0 => ("BeastCave$Trays", "sorts", "[I", true)
  | 1 => ("BeastCave$Trays", "sizes", "[I", true)
  | _ => ("BeastCave$Trays", "cells", "[J", true)
def tyX9 : Nat → FieldType := fun k => match k with
  | 0 => .array .int
  | 1 => .array .int
  | _ => .array .long
abbrev wsX90 : List Cond := u_ws RX9 TX9 3
theorem nmX9 : ∀ a, a < 3 → ∀ b, b < 3 → a ≠ b → (TX9 a).2.1 ≠ (TX9 b).2.1 := by decide +kernel
theorem tyX9_ok : ∀ k, k < 3 → parseFieldDescriptor (TX9 k).2.2.1 = some (tyX9 k) := by decide +kernel
def RX10 : String := "BeastCave$Walls"
def TX10 : u_T := fun k => match k with
  | 0 => ("BeastCave$Walls", "count", "I", false)
  | 1 => ("BeastCave$Walls", "ways", "I", false)
  | 2 => ("BeastCave$Walls", "beast", "[I", true)
  | 3 => ("BeastCave$Walls", "pull", "[I", true)
  | 4 => ("BeastCave$Walls", "direct", "[I", true)
  | _ => ("BeastCave$Walls", "distance", "[I", true)
def tyX10 : Nat → FieldType := fun k => match k with
  | 0 => .int
  | 1 => .int
  | 2 => .array .int
  | 3 => .array .int
  | 4 => .array .int
  | _ => .array .int
abbrev wsX100 : List Cond := u_ws RX10 TX10 6
theorem nmX10 : ∀ a, a < 6 → ∀ b, b < 6 → a ≠ b → (TX10 a).2.1 ≠ (TX10 b).2.1 := by decide +kernel
theorem tyX10_ok : ∀ k, k < 6 → parseFieldDescriptor (TX10 k).2.2.1 = some (tyX10 k) := by decide +kernel
def RX11 : String := "BeastCave"
def TX11 : u_T := fun k => match k with
  | 0 => ("BeastCave", "state", "I", false)
  | 1 => ("BeastCave", "fractionTop", "J", false)
  | 2 => ("BeastCave", "fractionBottom", "J", false)
  | 3 => ("BeastCave", "hasLived", "Z", false)
  | 4 => ("BeastCave", "livedLast", "[I", true)
  | 5 => ("BeastCave", "trays", "LBeastCave$Trays;", true)
  | 6 => ("BeastCave", "text", "LBeastCave$Text;", true)
  | 7 => ("BeastCave", "reader", "LBeastCave$Reader;", true)
  | 8 => ("BeastCave", "life", "LBeastCave$Life;", true)
  | 9 => ("BeastCave", "ahead", "LBeastCave$Ahead;", true)
  | 10 => ("BeastCave", "search", "LBeastCave$Search;", true)
  | 11 => ("BeastCave", "table", "[I", true)
  | 12 => ("BeastCave", "now", "LBeastCave$Cave;", false)
  | 13 => ("BeastCave", "spare", "LBeastCave$Cave;", false)
  | 14 => ("BeastCave", "plan", "LBeastCave$Days;", false)
  | 15 => ("BeastCave", "sparePlan", "LBeastCave$Days;", false)
  | 16 => ("BeastCave", "marks", "I", false)
  | 17 => ("BeastCave", "markedCaves", "[LBeastCave$Cave;", true)
  | _ => ("BeastCave", "markedPlans", "[LBeastCave$Days;", true)
def tyX11 : Nat → FieldType := fun k => match k with
  | 0 => .int
  | 1 => .long
  | 2 => .long
  | 3 => .boolean
  | 4 => .array .int
  | 5 => .object "BeastCave$Trays"
  | 6 => .object "BeastCave$Text"
  | 7 => .object "BeastCave$Reader"
  | 8 => .object "BeastCave$Life"
  | 9 => .object "BeastCave$Ahead"
  | 10 => .object "BeastCave$Search"
  | 11 => .array .int
  | 12 => .object "BeastCave$Cave"
  | 13 => .object "BeastCave$Cave"
  | 14 => .object "BeastCave$Days"
  | 15 => .object "BeastCave$Days"
  | 16 => .int
  | 17 => .array (.object "BeastCave$Cave")
  | _ => .array (.object "BeastCave$Days")
abbrev wsX110 : List Cond := u_ws RX11 TX11 19
theorem nmX11 : ∀ a, a < 19 → ∀ b, b < 19 → a ≠ b → (TX11 a).2.1 ≠ (TX11 b).2.1 := by decide +kernel
theorem tyX11_ok : ∀ k, k < 19 → parseFieldDescriptor (TX11 k).2.2.1 = some (tyX11 k) := by decide +kernel
def RX12 : String := "BeastCaveModel"
def TX12 : u_T := fun k => match k with
  | 0 => ("BeastCaveModel", "at", "[I", true)
  | 1 => ("BeastCaveModel", "names", "[J", true)
  | 2 => ("BeastCaveModel", "status", "I", false)
  | 3 => ("BeastCaveModel", "top", "J", false)
  | 4 => ("BeastCaveModel", "bottom", "J", false)
  | 5 => ("BeastCaveModel", "sort", "[I", true)
  | 6 => ("BeastCaveModel", "trayMany", "[I", true)
  | 7 => ("BeastCaveModel", "trays", "[J", true)
  | 8 => ("BeastCaveModel", "tape", "[B", true)
  | 9 => ("BeastCaveModel", "text", "[B", true)
  | 10 => ("BeastCaveModel", "taped", "I", false)
  | 11 => ("BeastCaveModel", "size", "I", false)
  | 12 => ("BeastCaveModel", "token", "I", false)
  | 13 => ("BeastCaveModel", "from", "I", false)
  | 14 => ("BeastCaveModel", "end", "I", false)
  | 15 => ("BeastCaveModel", "value", "I", false)
  | 16 => ("BeastCaveModel", "faultKind", "I", false)
  | 17 => ("BeastCaveModel", "faultPlace", "I", false)
  | 18 => ("BeastCaveModel", "faults", "I", false)
  | 19 => ("BeastCaveModel", "seen", "I", false)
  | 20 => ("BeastCaveModel", "toldParts", "I", false)
  | 21 => ("BeastCaveModel", "opened", "[I", true)
  | 22 => ("BeastCaveModel", "depth", "I", false)
  | 23 => ("BeastCaveModel", "counted", "I", false)
  | 24 => ("BeastCaveModel", "farBy", "[I", true)
  | 25 => ("BeastCaveModel", "triedAt", "[I", true)
  | 26 => ("BeastCaveModel", "cameBy", "[I", true)
  | 27 => ("BeastCaveModel", "tourBy", "[I", true)
  | 28 => ("BeastCaveModel", "tourMinutes", "I", false)
  | 29 => ("BeastCaveModel", "waysBy", "[I", true)
  | 30 => ("BeastCaveModel", "handsBy", "[I", true)
  | 31 => ("BeastCaveModel", "rowsBy", "[J", true)
  | 32 => ("BeastCaveModel", "moreBy", "[J", true)
  | 33 => ("BeastCaveModel", "greatBy", "[I", true)
  | 34 => ("BeastCaveModel", "mostBy", "[I", true)
  | 35 => ("BeastCaveModel", "beastBy", "[I", true)
  | 36 => ("BeastCaveModel", "fitsBy", "[Z", true)
  | 37 => ("BeastCaveModel", "fitMany", "I", false)
  | 38 => ("BeastCaveModel", "seenBy", "[I", true)
  | 39 => ("BeastCaveModel", "doneAt", "[I", true)
  | 40 => ("BeastCaveModel", "gotAt", "[I", true)
  | 41 => ("BeastCaveModel", "bestDeed", "[I", true)
  | 42 => ("BeastCaveModel", "litBy", "[J", true)
  | 43 => ("BeastCaveModel", "drawn", "I", false)
  | 44 => ("BeastCaveModel", "ranSteps", "I", false)
  | 45 => ("BeastCaveModel", "loops", "[I", true)
  | 46 => ("BeastCaveModel", "ran", "[I", true)
  | 47 => ("BeastCaveModel", "told1", "[I", true)
  | 48 => ("BeastCaveModel", "isTold", "Z", false)
  | _ => ("BeastCaveModel", "marks", "I", false)
def tyX12 : Nat → FieldType := fun k => match k with
  | 0 => .array .int
  | 1 => .array .long
  | 2 => .int
  | 3 => .long
  | 4 => .long
  | 5 => .array .int
  | 6 => .array .int
  | 7 => .array .long
  | 8 => .array .byte
  | 9 => .array .byte
  | 10 => .int
  | 11 => .int
  | 12 => .int
  | 13 => .int
  | 14 => .int
  | 15 => .int
  | 16 => .int
  | 17 => .int
  | 18 => .int
  | 19 => .int
  | 20 => .int
  | 21 => .array .int
  | 22 => .int
  | 23 => .int
  | 24 => .array .int
  | 25 => .array .int
  | 26 => .array .int
  | 27 => .array .int
  | 28 => .int
  | 29 => .array .int
  | 30 => .array .int
  | 31 => .array .long
  | 32 => .array .long
  | 33 => .array .int
  | 34 => .array .int
  | 35 => .array .int
  | 36 => .array .boolean
  | 37 => .int
  | 38 => .array .int
  | 39 => .array .int
  | 40 => .array .int
  | 41 => .array .int
  | 42 => .array .long
  | 43 => .int
  | 44 => .int
  | 45 => .array .int
  | 46 => .array .int
  | 47 => .array .int
  | 48 => .boolean
  | _ => .int
abbrev wsX120 : List Cond := u_ws RX12 TX12 50
theorem nmX12 : ∀ a, a < 50 → ∀ b, b < 50 → a ≠ b → (TX12 a).2.1 ≠ (TX12 b).2.1 := by decide +kernel
theorem tyX12_ok : ∀ k, k < 50 → parseFieldDescriptor (TX12 k).2.2.1 = some (tyX12 k) := by decide +kernel
abbrev vwCl : List vw_C := [(RX0, TX0, 3), (RX1, TX1, 2), (RX2, TX2, 15), (RX3, TX3, 8), (RX4, TX4, 5), (RX5, TX5, 10), (RX6, TX6, 9), (RX7, TX7, 11), (RX8, TX8, 15), (RX9, TX9, 3), (RX10, TX10, 6), (RX11, TX11, 19), (RX12, TX12, 50)]
end
section
/-! ===== a small machine of numbers: an int, a long, or a reference with the shape of what it names ===== -/
abbrev bc_V : Type := Int ⊕ (Int ⊕ ((Nat × Nat) × Int))
abbrev bc_L : Type := List (Option bc_V)
abbrev bc_St : Type := List bc_V
abbrev bc_H : Type := Int → Int → Int
abbrev bc_G : Type := Option (Σ' p : Prop, Decidable p)
abbrev bc_g (p : Prop) [d : Decidable p] : bc_G := some ⟨p, d⟩
def bc_upd (h : bc_H) (r j v : Int) : bc_H := fun a b => if a = r ∧ b = j then v else h a b
def bc_blk (h : bc_H) (r1 s1 r2 d2 n : Int) : bc_H := fun a b => if a = r2 ∧ d2 ≤ b ∧ b < d2 + n then h r1 (s1 + (b - d2)) else h a b
def bc_row (h : bc_H) (r : Int) (f : Int → Int) : bc_H := fun a b => if a = r then f b else h a b
def bc_w32 (x : Int) : Int := (x + 2147483648) % 4294967296 - 2147483648
def bc_w64 (x : Int) : Int := (x + 9223372036854775808) % 18446744073709551616 - 9223372036854775808
def bc_w8 (x : Int) : Int := (x + 128) % 256 - 128
def bc_w16 (x : Int) : Int := (x + 32768) % 65536 - 32768
def bc_and (a b : Int) : Int := (Int32.ofInt a &&& Int32.ofInt b).toInt
def bc_or (a b : Int) : Int := (Int32.ofInt a ||| Int32.ofInt b).toInt
def bc_xor (a b : Int) : Int := (Int32.ofInt a ^^^ Int32.ofInt b).toInt
def bc_shl (a b : Int) : Int := (Int32.ofInt a <<< (Int32.ofInt b &&& 31)).toInt
def bc_shr (a b : Int) : Int := (Int32.ofInt a >>> (Int32.ofInt b &&& 31)).toInt
def bc_ushr (a b : Int) : Int := ((Int32.ofInt a).toUInt32 >>> ((Int32.ofInt b).toUInt32 &&& Int32.toUInt32 31)).toInt32.toInt
def bc_landL (a b : Int) : Int := (Int64.ofInt a &&& Int64.ofInt b).toInt
def bc_lorL (a b : Int) : Int := (Int64.ofInt a ||| Int64.ofInt b).toInt
def bc_lshl (a b : Int) : Int := (Int64.ofInt a <<< ((Int32.ofInt b).toInt64 &&& 63)).toInt
def bc_lshr (a b : Int) : Int := (Int64.ofInt a >>> ((Int32.ofInt b).toInt64 &&& 63)).toInt
def bc_lushr (a b : Int) : Int := ((Int64.ofInt a).toUInt64 >>> ((Int32.ofInt b).toInt64.toUInt64 &&& Int64.toUInt64 63)).toInt64.toInt
def bc_lcmp (a b : Int) : Int := if a < b then -1 else if a = b then 0 else 1
/-- locals by their places -/
def bc_lget : bc_L → Nat → Option bc_V
  | [], _ => none
  | a :: _, 0 => a
  | _ :: l, n + 1 => bc_lget l n
def bc_lset : bc_L → Nat → Option bc_V → bc_L
  | [], 0, v => [v]
  | [], n + 1, v => none :: bc_lset [] n v
  | _ :: l, 0, v => v :: l
  | a :: l, n + 1, v => a :: bc_lset l n v
def bc_cl (ls : bc_L) : Nat → bc_L
  | 0 => ls
  | n + 1 => match bc_lget ls n with
    | some (.inr (.inl _)) => bc_lset ls n none
    | _ => ls
def bc_sto (ls : bc_L) (n : Nat) (v : bc_V) : bc_L := bc_lset (bc_cl ls n) n (some v)
def bc_sto2 (ls : bc_L) (n : Nat) (v : bc_V) : bc_L := bc_lset (bc_lset (bc_cl ls n) n (some v)) (n + 1) none
def bc_ent : List bc_V → bc_L
  | [] => []
  | .inr (.inl x) :: l => some (.inr (.inl x)) :: none :: bc_ent l
  | v :: l => some v :: bc_ent l
def bc_pad : bc_L → Nat → bc_L
  | l, 0 => l
  | [], n + 1 => none :: bc_pad [] n
  | a :: l, n + 1 => a :: bc_pad l n
/-- how many words an operand takes -/
def bc_cat : bc_St → Nat
  | [] => 0
  | .inr (.inl _) :: l => 2 + bc_cat l
  | _ :: l => 1 + bc_cat l
def bc_take : Nat → bc_St → bc_St → Option (bc_St × bc_St)
  | 0, st, acc => some (acc, st)
  | n + 1, v :: st, acc => bc_take n st (v :: acc)
  | _ + 1, [], _ => none
def bc_two {α : Type} (l : List (List α)) (k : Nat) (d : α) : α := (l.getD (k / 16) []).getD (k % 16) d
/-- 'p' where the flag is down; nothing to show where it is up -/
def bc_ifn (ph : Bool) (p : Prop) [Decidable p] : bc_G := match ph with
  | true => none
  | false => bc_g p
/-- the conditions of a branch: taken, not taken -/
def bc_yes (c : ClassFile.Cond) (a b : Int) : Prop := match c with
  | .eq => a = b | .ne => a ≠ b | .lt => a < b | .ge => b ≤ a | .gt => b < a | .le => a ≤ b
def bc_not (c : ClassFile.Cond) (a b : Int) : Prop := match c with
  | .eq => a ≠ b | .ne => a = b | .lt => b ≤ a | .ge => a < b | .gt => a ≤ b | .le => b < a
end
section
/-- the fields' kinds: 10 int, 11 long, 12 boolean, else the shape of what is named (0: object of a class; 1 int, 2 byte, 3 long, 4 boolean, 5, 6 references: so many places) -/
def bc_FT : List (List (Nat × Nat)) := [[(1, 5), (1, 201), (1, 201)],
  [(10, 0), (1, 25)],
  [(10, 0), (10, 0), (10, 0), (10, 0), (0, 1), (0, 10), (0, 4), (1, 6), (1, 6), (1, 6), (1, 30), (10, 0), (3, 26), (1, 26), (1, 26)],
  [(12, 0), (10, 0), (10, 0), (1, 60), (1, 60), (1, 60), (1, 60), (1, 60)],
  [(10, 0), (1, 8), (1, 8), (1, 8), (1, 8)],
  [(10, 0), (10, 0), (10, 0), (10, 0), (10, 0), (10, 0), (0, 2), (0, 3), (10, 0), (1, 60)],
  [(0, 8), (0, 2), (0, 3), (12, 0), (12, 0), (1, 12), (10, 0), (1, 3), (10, 0)],
  [(10, 0), (1, 5), (10, 0), (1, 5), (1, 30), (1, 7), (0, 10), (10, 0), (10, 0), (10, 0), (10, 0)],
  [(10, 0), (10, 0), (10, 0), (10, 0), (10, 0), (11, 0), (10, 0), (2, 900), (3, 27), (10, 0), (10, 0), (10, 0), (10, 0), (10, 0), (10, 0)],
  [(1, 4), (1, 4), (3, 240)],
  [(10, 0), (10, 0), (1, 7), (1, 7), (1, 49), (1, 49)],
  [(10, 0), (11, 0), (11, 0), (12, 0), (1, 5), (0, 9), (0, 8), (0, 6), (0, 5), (0, 0), (0, 7), (1, 512), (0, 2), (0, 2), (0, 3), (0, 3), (10, 0), (5, 3), (6, 3)],
  [(1, 3968), (3, 156), (10, 0), (11, 0), (11, 0), (1, 4), (1, 4), (3, 240), (2, 900), (2, 900), (10, 0), (10, 0), (10, 0), (10, 0), (10, 0), (10, 0), (10, 0), (10, 0), (10, 0), (10, 0), (10, 0), (1, 3), (10, 0), (10, 0), (1, 49), (1, 6), (1, 6), (1, 5), (10, 0), (1, 256), (1, 256), (3, 5), (3, 5), (1, 45), (1, 201), (1, 201), (4, 61), (10, 0), (1, 6), (1, 5), (1, 5), (1, 5), (3, 13), (10, 0), (10, 0), (1, 80), (1, 5), (1, 5), (12, 0), (10, 0)]]
def bc_ft (c f : Nat) : Nat × Nat := (bc_FT.getD c []).getD f (99, 0)
/-- how far behind an object the cell lies that a final field names -/
def bc_FO : List (List (Option Int)) := [[some (1), some (2), some (3)],
  [none, some (1)],
  [none, none, none, none, some (1), some (3), some (8), some (13), some (14), some (15), some (16), none, some (17), some (18), some (19)],
  [none, none, none, some (1), some (2), some (3), some (4), some (5)],
  [none, some (1), some (2), some (3), some (4)],
  [none, none, none, none, none, none, none, none, none, some (1)],
  [some (-3), none, none, none, none, some (1), none, some (2), none],
  [none, some (1), none, some (2), some (3), some (4), none, none, none, none, none],
  [none, none, none, none, none, none, none, some (1), some (2), none, none, none, none, none, none],
  [some (1), some (2), some (3)],
  [none, none, some (1), some (2), some (3), some (4)],
  [none, none, none, none, some (1), some (2), some (6), some (9), some (12), some (14), some (18), some (23), none, none, none, none, none, some (76), some (77)],
  [some (1), some (2), none, none, none, some (3), some (4), some (5), some (6), some (7), none, none, none, none, none, none, none, none, none, none, none, some (8), none, none, some (9), some (10), some (11), some (12), none, some (13), some (14), some (15), some (16), some (17), some (18), some (19), some (20), none, some (21), some (22), some (23), some (24), some (25), none, none, some (26), some (27), some (28), none, none]]
def bc_fo (c f : Nat) : Option Int := (bc_FO.getD c []).getD f none
/-- the shapes of the cells, in the order in which they are made -/
def bc_SH : List (Nat × Nat) := [(0, 11), (1, 5), (0, 9), (1, 4), (1, 4), (3, 240), (0, 8), (2, 900), (3, 27), (0, 6), (1, 12), (1, 3), (0, 5), (1, 60), (0, 0), (1, 5), (1, 201), (1, 201), (0, 7), (1, 5), (1, 5), (1, 30), (1, 7), (1, 512), (0, 2), (0, 1), (1, 25), (0, 10), (1, 7), (1, 7), (1, 49), (1, 49), (0, 4), (1, 8), (1, 8), (1, 8), (1, 8), (1, 6), (1, 6), (1, 6), (1, 30), (3, 26), (1, 26), (1, 26), (0, 2), (0, 1), (1, 25), (0, 10), (1, 7), (1, 7), (1, 49), (1, 49), (0, 4), (1, 8), (1, 8), (1, 8), (1, 8), (1, 6), (1, 6), (1, 6), (1, 30), (3, 26), (1, 26), (1, 26), (0, 3), (1, 60), (1, 60), (1, 60), (1, 60), (1, 60), (0, 3), (1, 60), (1, 60), (1, 60), (1, 60), (1, 60), (5, 3), (6, 3), (0, 2), (0, 1), (1, 25), (0, 10), (1, 7), (1, 7), (1, 49), (1, 49), (0, 4), (1, 8), (1, 8), (1, 8), (1, 8), (1, 6), (1, 6), (1, 6), (1, 30), (3, 26), (1, 26), (1, 26), (0, 3), (1, 60), (1, 60), (1, 60), (1, 60), (1, 60), (0, 2), (0, 1), (1, 25), (0, 10), (1, 7), (1, 7), (1, 49), (1, 49), (0, 4), (1, 8), (1, 8), (1, 8), (1, 8), (1, 6), (1, 6), (1, 6), (1, 30), (3, 26), (1, 26), (1, 26), (0, 3), (1, 60), (1, 60), (1, 60), (1, 60), (1, 60), (0, 2), (0, 1), (1, 25), (0, 10), (1, 7), (1, 7), (1, 49), (1, 49), (0, 4), (1, 8), (1, 8), (1, 8), (1, 8), (1, 6), (1, 6), (1, 6), (1, 30), (3, 26), (1, 26), (1, 26), (0, 3), (1, 60), (1, 60), (1, 60), (1, 60), (1, 60), (0, 12), (1, 3968), (3, 156), (1, 4), (1, 4), (3, 240), (2, 900), (2, 900), (1, 3), (1, 49), (1, 6), (1, 6), (1, 5), (1, 256), (1, 256), (3, 5), (3, 5), (1, 45), (1, 201), (1, 201), (4, 61), (1, 6), (1, 5), (1, 5), (1, 5), (3, 13), (1, 80), (1, 5), (1, 5)]
def bc_st0 : List Int := [108, 97, 109, 112, 32, 111, 100, 100, 115, 32, 98, 101, 97, 115, 116, 32, 119, 97, 108, 108, 32, 111, 102, 32, 112, 117, 108, 108, 115, 32, 119, 97, 121, 32, 108, 111, 110, 103, 32, 118, 105, 115, 105, 116, 111, 114, 32, 115, 101, 108, 102, 32, 97, 116, 32, 102, 105, 103, 117, 114, 101, 32, 115, 116, 121, 108, 101, 32, 111, 118, 101, 114, 32, 102, 111, 108, 108, 111, 119, 115, 32, 119, 101, 105, 103, 104, 116, 32, 109, 105, 110, 117, 116, 101, 32, 108, 101, 97, 100, 32, 119, 97, 107, 101, 32, 102, 105, 108, 108, 32, 97, 110, 121, 32, 119, 104, 101, 110, 32, 116, 117, 114, 110, 101, 100, 32, 100, 97, 114, 107, 32, 108, 111, 111, 112, 32, 101, 110, 100, 32, 115, 116, 111, 112, 32]
def bc_st1 : List Int := [32, 108, 97, 109, 112, 32, 111, 100, 100, 115, 32, 98, 101, 97, 115, 116, 32, 119, 97, 108, 108, 32, 119, 97, 121, 32, 118, 105, 115, 105, 116, 111, 114, 32, 102, 105, 103, 117, 114, 101, 32, 111, 118, 101, 114, 32, 102, 111, 108, 108, 111, 119, 115, 32, 111, 102, 32, 112, 117, 108, 108, 115, 32, 108, 111, 110, 103, 32, 115, 101, 108, 102, 32, 97, 116, 32, 115, 116, 121, 108, 101, 32, 119, 101, 105, 103, 104, 116, 32, 109, 105, 110, 117, 116, 101, 32, 108, 101, 97, 100, 32, 119, 97, 107, 101, 32, 102, 105, 108, 108, 32, 97, 110, 121, 32, 119, 104, 101, 110, 32, 108, 111, 111, 112, 32, 101, 110, 100, 32, 115, 116, 111, 112, 32, 116, 117, 114, 110, 101, 100, 32, 100, 97, 114, 107, 32]
def bc_str : Nat → List Int
  | 0 => bc_st0
  | _ => bc_st1
/-- a method: operands, what it gives (0 nothing, 1 int, 2 long, 3 boolean), locals, its class -/
def bc_MT : List (List (Nat × Nat × Nat × Nat)) := [[(1, 3, 4, 50), (1, 0, 1, 0), (4, 0, 9, 0), (4, 1, 5, 0), (4, 1, 4, 0), (6, 2, 12, 0), (2, 1, 9, 0), (1, 0, 1, 1), (1, 0, 1, 1), (2, 0, 2, 1), (3, 0, 7, 1), (3, 1, 8, 1), (4, 1, 11, 1), (1, 0, 1, 2), (1, 0, 1, 2), (2, 0, 2, 2)],
  [(4, 0, 5, 2), (2, 3, 4, 2), (3, 1, 5, 2), (4, 0, 5, 2), (4, 0, 6, 2), (2, 1, 4, 2), (2, 1, 4, 2), (3, 0, 4, 2), (2, 1, 2, 2), (2, 3, 2, 2), (1, 1, 3, 2), (1, 1, 3, 2), (1, 1, 5, 2), (3, 3, 4, 2), (2, 3, 3, 2), (2, 3, 2, 2)],
  [(1, 0, 1, 3), (1, 0, 1, 3), (2, 0, 2, 3), (5, 1, 5, 3), (3, 0, 3, 3), (1, 0, 1, 4), (1, 0, 1, 4), (2, 0, 2, 4), (4, 0, 4, 4), (2, 1, 7, 4), (2, 1, 7, 4), (2, 1, 5, 4), (4, 3, 5, 4), (3, 0, 5, 4), (3, 1, 7, 4), (3, 1, 5, 4)],
  [(1, 0, 1, 5), (4, 0, 6, 5), (2, 1, 3, 5), (2, 1, 4, 5), (2, 3, 2, 5), (2, 3, 3, 5), (2, 3, 3, 5), (2, 3, 4, 5), (2, 1, 2, 5), (2, 0, 2, 6), (3, 3, 4, 6), (1, 3, 1, 6), (3, 3, 3, 6), (3, 3, 4, 6), (1, 3, 1, 6), (1, 3, 1, 6)],
  [(1, 3, 1, 6), (1, 3, 1, 6), (1, 3, 2, 6), (1, 3, 2, 6), (1, 3, 2, 6), (1, 3, 2, 6), (1, 3, 2, 6), (4, 3, 6, 6), (1, 3, 1, 6), (1, 3, 5, 6), (1, 3, 1, 6), (2, 3, 2, 6), (1, 3, 1, 6), (1, 0, 1, 7), (3, 0, 3, 7), (5, 3, 5, 7)],
  [(5, 0, 7, 7), (4, 3, 6, 7), (4, 1, 4, 7), (4, 1, 4, 7), (4, 1, 11, 7), (4, 1, 6, 7), (4, 1, 6, 7), (1, 0, 6, 8), (2, 0, 3, 8), (2, 0, 2, 8), (1, 3, 1, 8), (1, 3, 1, 8), (2, 3, 2, 8), (2, 3, 2, 8), (2, 3, 2, 8), (3, 3, 3, 8)],
  [(1, 0, 1, 8), (1, 0, 2, 8), (1, 0, 2, 8), (1, 0, 3, 8), (1, 0, 1, 9), (1, 3, 1, 9), (2, 3, 2, 9), (2, 1, 2, 9), (4, 3, 4, 9), (4, 0, 5, 9), (3, 2, 3, 9), (4, 0, 5, 9), (2, 2, 3, 9), (6, 0, 6, 9), (1, 0, 1, 10), (1, 0, 1, 10)],
  [(2, 0, 2, 10), (3, 0, 3, 10), (4, 0, 5, 10), (1, 1, 3, 10), (2, 1, 4, 10), (1, 0, 4, 10), (4, 0, 7, 10), (1, 0, 2, 11), (1, 1, 1, 11), (1, 2, 1, 11), (1, 2, 1, 11), (4, 3, 4, 11), (4, 3, 6, 11), (3, 2, 4, 11), (6, 3, 6, 11), (6, 1, 6, 11)],
  [(2, 1, 4, 11), (2, 1, 4, 11), (2, 1, 2, 11), (2, 1, 2, 11), (3, 1, 3, 11), (3, 1, 3, 11), (3, 1, 3, 11), (2, 1, 2, 11), (3, 1, 3, 11), (3, 1, 3, 11), (2, 1, 3, 11), (3, 1, 3, 11), (2, 1, 2, 11), (2, 1, 2, 11), (4, 3, 4, 11), (2, 1, 3, 11)],
  [(3, 1, 3, 11), (4, 1, 4, 11), (3, 3, 3, 11), (2, 3, 2, 11), (4, 1, 4, 11), (3, 1, 3, 11), (2, 1, 3, 11), (1, 1, 2, 11), (3, 1, 3, 11), (3, 1, 4, 11), (2, 1, 2, 11), (4, 1, 5, 11), (5, 1, 6, 11), (1, 1, 1, 11), (2, 1, 3, 11), (2, 1, 2, 11)],
  [(2, 1, 2, 11), (2, 1, 2, 11), (2, 2, 4, 11), (3, 2, 3, 11), (2, 1, 3, 11), (3, 1, 3, 11), (4, 1, 5, 11), (5, 1, 10, 11), (4, 1, 7, 11), (3, 1, 3, 11), (3, 1, 3, 11), (3, 3, 6, 11), (2, 1, 3, 11), (2, 1, 2, 11), (2, 1, 2, 11), (3, 3, 5, 11)],
  [(1, 1, 1, 11), (1, 1, 1, 11), (2, 1, 2, 11), (2, 1, 2, 11), (1, 3, 1, 11), (2, 3, 2, 11), (3, 3, 3, 11), (2, 3, 2, 11), (2, 3, 2, 11), (2, 3, 2, 11), (2, 3, 2, 11), (2, 3, 2, 11), (3, 1, 3, 11), (4, 1, 4, 11), (4, 1, 9, 11), (3, 0, 12, 11)],
  [(2, 2, 5, 11), (2, 2, 5, 11), (1, 0, 1, 12), (2, 0, 3, 12), (1, 1, 1, 12), (1, 2, 1, 12), (1, 2, 1, 12), (2, 3, 2, 12), (2, 1, 2, 12), (2, 1, 2, 12), (2, 1, 2, 12), (3, 3, 11, 12), (1, 3, 1, 12), (2, 2, 3, 12), (4, 3, 5, 12), (3, 1, 3, 12)],
  [(4, 3, 6, 12), (3, 2, 3, 12), (6, 3, 8, 12), (3, 3, 6, 12), (6, 1, 6, 12), (2, 0, 3, 12), (2, 1, 2, 12), (1, 3, 1, 12), (1, 3, 1, 12), (1, 0, 2, 12), (2, 3, 2, 12), (2, 1, 7, 12), (2, 3, 2, 12), (3, 3, 4, 12), (2, 3, 2, 12), (3, 3, 3, 12)],
  [(4, 3, 4, 12), (2, 3, 2, 12), (1, 2, 4, 12), (3, 1, 4, 12), (2, 1, 2, 12), (2, 1, 2, 12), (1, 1, 1, 12), (1, 1, 1, 12), (1, 1, 1, 12), (2, 3, 2, 12), (1, 3, 1, 12), (4, 3, 4, 12), (4, 3, 4, 12), (4, 3, 4, 12), (2, 3, 2, 12), (1, 3, 1, 12)],
  [(1, 3, 2, 12), (1, 3, 2, 12), (1, 3, 2, 12), (1, 3, 2, 12), (1, 3, 2, 12), (1, 3, 2, 12), (1, 3, 3, 12), (2, 1, 4, 12), (2, 3, 2, 12), (2, 3, 2, 12), (2, 3, 3, 12), (3, 3, 3, 12), (1, 3, 6, 12), (2, 1, 4, 12), (2, 3, 2, 12), (2, 3, 2, 12)],
  [(2, 3, 2, 12), (2, 3, 2, 12), (3, 3, 3, 12), (1, 1, 3, 12), (3, 1, 3, 12), (3, 1, 3, 12), (3, 1, 3, 12), (3, 1, 3, 12), (2, 1, 4, 12), (2, 1, 3, 12), (2, 3, 2, 12), (2, 1, 2, 12), (1, 1, 3, 12), (2, 1, 5, 12), (2, 1, 2, 12), (3, 1, 3, 12)],
  [(3, 1, 3, 12), (3, 1, 3, 12), (2, 1, 2, 12), (3, 1, 3, 12), (3, 1, 3, 12), (3, 0, 6, 12), (1, 1, 4, 12), (2, 1, 4, 12), (2, 1, 2, 12), (3, 1, 7, 12), (3, 3, 5, 12), (3, 1, 3, 12), (2, 3, 3, 12), (2, 1, 2, 12), (2, 3, 2, 12), (2, 1, 2, 12)],
  [(4, 3, 4, 12), (2, 1, 3, 12), (3, 1, 5, 12), (4, 1, 5, 12), (3, 3, 3, 12), (2, 3, 2, 12), (1, 1, 1, 12), (2, 0, 3, 12), (2, 0, 3, 12), (1, 3, 1, 12), (4, 1, 5, 12), (3, 1, 4, 12), (2, 1, 4, 12), (1, 1, 3, 12), (3, 1, 3, 12), (1, 0, 5, 12)],
  [(3, 1, 4, 12), (2, 1, 4, 12), (4, 3, 6, 12), (2, 3, 3, 12), (4, 0, 9, 12), (4, 1, 4, 12), (4, 1, 5, 12), (5, 1, 6, 12), (3, 3, 3, 12), (1, 1, 4, 12), (1, 1, 1, 12), (2, 1, 5, 12), (2, 1, 5, 12), (3, 1, 5, 12), (3, 3, 5, 12), (2, 1, 5, 12)],
  [(2, 1, 4, 12), (2, 0, 5, 12), (2, 2, 5, 12), (3, 2, 3, 12), (2, 1, 5, 12), (2, 1, 3, 12), (3, 1, 6, 12), (4, 1, 6, 12), (3, 1, 3, 12), (4, 0, 7, 12), (4, 1, 5, 12), (5, 1, 7, 12), (2, 1, 5, 12), (4, 1, 7, 12), (3, 0, 4, 12), (4, 3, 4, 12)],
  [(2, 1, 2, 12), (3, 1, 4, 12), (3, 1, 3, 12), (3, 1, 3, 12), (3, 3, 8, 12), (2, 1, 3, 12), (2, 1, 2, 12), (2, 3, 2, 12), (3, 3, 3, 12), (1, 3, 2, 12), (2, 3, 3, 12), (2, 3, 5, 12), (2, 1, 5, 12), (2, 0, 4, 12), (2, 1, 3, 12), (2, 1, 2, 12)],
  [(3, 3, 6, 12), (3, 0, 4, 12), (1, 1, 1, 12), (1, 1, 1, 12), (1, 1, 1, 50), (1, 1, 2, 50), (1, 1, 1, 50), (2, 1, 2, 50), (2, 1, 2, 50), (2, 0, 4, 50)]]
def bc_mt (k : Nat) : Nat × Nat × Nat × Nat := bc_two bc_MT k (0, 0, 0, 0)
end
section
/-- one instruction that neither branches, calls, ends nor makes a cell: what must hold, and what is then -/
def bc_s1 (ph : Bool) (i : Instr) (ls : bc_L) (st : bc_St) (h : bc_H) : Option (bc_G × bc_L × bc_St × bc_H) :=
  match i with
  | .iconst n => some (none, ls, .inl n :: st, h)
  | .sipush n => some (none, ls, .inr (.inl n) :: st, h)
  | .ldc j => some (none, ls, .inr (.inr ((8, j), -10)) :: st, h)
  | .iload j => match bc_lget ls j with | some (.inl x) => some (none, ls, .inl x :: st, h) | _ => none
  | .lload j => match bc_lget ls j with | some (.inr (.inl x)) => some (none, ls, .inr (.inl x) :: st, h) | _ => none
  | .aload j => match bc_lget ls j with | some (.inr (.inr x)) => some (none, ls, .inr (.inr x) :: st, h) | _ => none
  | .istore j => match st with | .inl x :: st => some (none, bc_sto ls j (.inl x), st, h) | _ => none
  | .lstore j => match st with | .inr (.inl x) :: st => some (none, bc_sto2 ls j (.inr (.inl x)), st, h) | _ => none
  | .astore j => match st with | .inr (.inr x) :: st => some (none, bc_sto ls j (.inr (.inr x)), st, h) | _ => none
  | .iinc j n => match bc_lget ls j with | some (.inl x) => some (none, bc_sto ls j (.inl (bc_w32 (x + n))), st, h) | _ => none
  | .iadd => match st with | .inl b :: .inl a :: st => some (none, ls, .inl (bc_w32 (a + b)) :: st, h) | _ => none
  | .isub => match st with | .inl b :: .inl a :: st => some (none, ls, .inl (bc_w32 (a - b)) :: st, h) | _ => none
  | .imul => match st with | .inl b :: .inl a :: st => some (none, ls, .inl (bc_w32 (a * b)) :: st, h) | _ => none
  | .idiv => match st with | .inl b :: .inl a :: st => some (bc_g (b ≠ 0), ls, .inl (bc_w32 (a.tdiv b)) :: st, h) | _ => none
  | .irem => match st with | .inl b :: .inl a :: st => some (bc_g (b ≠ 0), ls, .inl (a.tmod b) :: st, h) | _ => none
  | .ineg => match st with | .inl a :: st => some (none, ls, .inl (bc_w32 (-a)) :: st, h) | _ => none
  | .iand => match st with | .inl b :: .inl a :: st => some (none, ls, .inl (bc_and a b) :: st, h) | _ => none
  | .ior => match st with | .inl b :: .inl a :: st => some (none, ls, .inl (bc_or a b) :: st, h) | _ => none
  | .ixor => match st with | .inl b :: .inl a :: st => some (none, ls, .inl (bc_xor a b) :: st, h) | _ => none
  | .ishl => match st with | .inl b :: .inl a :: st => some (none, ls, .inl (bc_shl a b) :: st, h) | _ => none
  | .ishr => match st with | .inl b :: .inl a :: st => some (none, ls, .inl (bc_shr a b) :: st, h) | _ => none
  | .iushr => match st with | .inl b :: .inl a :: st => some (none, ls, .inl (bc_ushr a b) :: st, h) | _ => none
  | .ladd => match st with | .inr (.inl b) :: .inr (.inl a) :: st => some (none, ls, .inr (.inl (bc_w64 (a + b))) :: st, h) | _ => none
  | .lsub => match st with | .inr (.inl b) :: .inr (.inl a) :: st => some (none, ls, .inr (.inl (bc_w64 (a - b))) :: st, h) | _ => none
  | .lmul => match st with | .inr (.inl b) :: .inr (.inl a) :: st => some (none, ls, .inr (.inl (bc_w64 (a * b))) :: st, h) | _ => none
  | .ldiv => match st with | .inr (.inl b) :: .inr (.inl a) :: st => some (bc_g (b ≠ 0), ls, .inr (.inl (bc_w64 (a.tdiv b))) :: st, h) | _ => none
  | .lrem => match st with | .inr (.inl b) :: .inr (.inl a) :: st => some (bc_g (b ≠ 0), ls, .inr (.inl (a.tmod b)) :: st, h) | _ => none
  | .land => match st with | .inr (.inl b) :: .inr (.inl a) :: st => some (none, ls, .inr (.inl (bc_landL a b)) :: st, h) | _ => none
  | .lor => match st with | .inr (.inl b) :: .inr (.inl a) :: st => some (none, ls, .inr (.inl (bc_lorL a b)) :: st, h) | _ => none
  | .lshl => match st with | .inl b :: .inr (.inl a) :: st => some (none, ls, .inr (.inl (bc_lshl a b)) :: st, h) | _ => none
  | .lshr => match st with | .inl b :: .inr (.inl a) :: st => some (none, ls, .inr (.inl (bc_lshr a b)) :: st, h) | _ => none
  | .lushr => match st with | .inl b :: .inr (.inl a) :: st => some (none, ls, .inr (.inl (bc_lushr a b)) :: st, h) | _ => none
  | .lcmp => match st with | .inr (.inl b) :: .inr (.inl a) :: st => some (none, ls, .inl (bc_lcmp a b) :: st, h) | _ => none
  | .i2l => match st with | .inl a :: st => some (none, ls, .inr (.inl a) :: st, h) | _ => none
  | .l2i => match st with | .inr (.inl a) :: st => some (none, ls, .inl (bc_w32 a) :: st, h) | _ => none
  | .i2b => match st with | .inl a :: st => some (none, ls, .inl (bc_w8 a) :: st, h) | _ => none
  | .i2s => match st with | .inl a :: st => some (none, ls, .inl (bc_w16 a) :: st, h) | _ => none
  | .dup => match st with
    | .inl a :: st => some (none, ls, .inl a :: .inl a :: st, h)
    | .inr (.inr a) :: st => some (none, ls, .inr (.inr a) :: .inr (.inr a) :: st, h)
    | _ => none
  | .dup2 => match st with
    | .inl a :: .inr (.inr b) :: st => some (none, ls, .inl a :: .inr (.inr b) :: .inl a :: .inr (.inr b) :: st, h)
    | .inr (.inl a) :: st => some (none, ls, .inr (.inl a) :: .inr (.inl a) :: st, h)
    | _ => none
  | .pop => match st with
    | .inl _ :: st => some (none, ls, st, h)
    | .inr (.inr _) :: st => some (none, ls, st, h)
    | _ => none
  | .getfield n => match st with
    | .inr (.inr ((0, c), r)) :: st => match Nat.beq c (n / 64) with
      | true => match bc_ft (n / 64) (n % 64) with
        | (10, _) => some (none, ls, .inl (h r (n % 64 : Nat)) :: st, h)
        | (11, _) => some (none, ls, .inr (.inl (h r (n % 64 : Nat))) :: st, h)
        | (12, _) => some (none, ls, .inl (h r (n % 64 : Nat)) :: st, h)
        | sh => match ph, bc_fo (n / 64) (n % 64) with
          | true, some o => some (none, ls, .inr (.inr (sh, r + o)) :: st, h)
          | _, _ => some (bc_g (0 ≤ h r (n % 64 : Nat)), ls, .inr (.inr (sh, h r (n % 64 : Nat))) :: st, h)
      | false => none
    | _ => none
  | .putfield n => match st with
    | v :: .inr (.inr ((0, c), r)) :: st => match Nat.beq c (n / 64) with
      | true => match v, bc_ft (n / 64) (n % 64) with
        | .inl x, (10, _) => some (none, ls, st, bc_upd h r (n % 64 : Nat) x)
        | .inl x, (12, _) => some (bc_g (x = 0 ∨ x = 1), ls, st, bc_upd h r (n % 64 : Nat) x)
        | .inr (.inl x), (11, _) => some (none, ls, st, bc_upd h r (n % 64 : Nat) x)
        | .inr (.inr ((a, b), x)), (k, m) => match ph, bc_fo (n / 64) (n % 64) with
          | true, some _ => none
          | _, _ => match Nat.beq a k, Nat.beq b m with
            | true, true => some (none, ls, st, bc_upd h r (n % 64 : Nat) x)
            | _, _ => none
        | _, _ => none
      | false => none
    | _ => none
  | .arraylength => match st with
    | .inr (.inr ((7, _), _)) :: st => some (none, ls, .inl (h (-3) 0) :: st, h)
    | .inr (.inr ((1, n), _)) :: st => some (none, ls, .inl (n : Int) :: st, h)
    | _ => none
  | .iaload => match st with
    | .inl i :: .inr (.inr ((1, n), r)) :: st => some (bc_g (0 ≤ i ∧ i < (n : Int)), ls, .inl (h r i) :: st, h)
    | .inl i :: .inr (.inr ((7, _), _)) :: st => some (bc_g (0 ≤ i ∧ i < h (-3) 0), ls, .inl (h (-2) i) :: st, h)
    | _ => none
  | .laload => match st with
    | .inl i :: .inr (.inr ((3, n), r)) :: st => some (bc_g (0 ≤ i ∧ i < (n : Int)), ls, .inr (.inl (h r i)) :: st, h)
    | _ => none
  | .baload => match st with
    | .inl i :: .inr (.inr ((2, n), r)) :: st => some (bc_g (0 ≤ i ∧ i < (n : Int)), ls, .inl (h r i) :: st, h)
    | .inl i :: .inr (.inr ((4, n), r)) :: st => some (bc_g (0 ≤ i ∧ i < (n : Int)), ls, .inl (h r i) :: st, h)
    | _ => none
  | .aaload => match st with
    | .inl i :: .inr (.inr ((5, n), r)) :: st => some (bc_g ((0 ≤ i ∧ i < (n : Int)) ∧ 0 ≤ h r i), ls, .inr (.inr ((0, 2), h r i)) :: st, h)
    | .inl i :: .inr (.inr ((6, n), r)) :: st => some (bc_g ((0 ≤ i ∧ i < (n : Int)) ∧ 0 ≤ h r i), ls, .inr (.inr ((0, 3), h r i)) :: st, h)
    | _ => none
  | .iastore => match st with
    | .inl x :: .inl i :: .inr (.inr ((1, n), r)) :: st => some (bc_g (0 ≤ i ∧ i < (n : Int)), ls, st, bc_upd h r i x)
    | _ => none
  | .lastore => match st with
    | .inr (.inl x) :: .inl i :: .inr (.inr ((3, n), r)) :: st => some (bc_g (0 ≤ i ∧ i < (n : Int)), ls, st, bc_upd h r i x)
    | _ => none
  | .bastore => match st with
    | .inl x :: .inl i :: .inr (.inr ((2, n), r)) :: st => some (bc_g (0 ≤ i ∧ i < (n : Int)), ls, st, bc_upd h r i (bc_w8 x))
    | .inl x :: .inl i :: .inr (.inr ((4, n), r)) :: st => some (bc_g ((0 ≤ i ∧ i < (n : Int)) ∧ (x = 0 ∨ x = 1)), ls, st, bc_upd h r i x)
    | _ => none
  | .aastore => match st with
    | .inr (.inr ((0, 2), x)) :: .inl i :: .inr (.inr ((5, n), r)) :: st => some (bc_g (0 ≤ i ∧ i < (n : Int)), ls, st, bc_upd h r i x)
    | .inr (.inr ((0, 3), x)) :: .inl i :: .inr (.inr ((6, n), r)) :: st => some (bc_g (0 ≤ i ∧ i < (n : Int)), ls, st, bc_upd h r i x)
    | _ => none
  | .ret 0 => match st with
    | .inr (.inr ((0, _), _)) :: st => some (none, ls, st, h)
    | _ => none
  | .ret 1 => match st with
    | .inl n :: .inl d :: .inr (.inr ((1, n2), r2)) :: .inl s :: .inr (.inr ((1, n1), r1)) :: st => some (bc_g ((0 ≤ s ∧ 0 ≤ d ∧ 0 ≤ n) ∧ s + n ≤ (n1 : Int) ∧ d + n ≤ (n2 : Int)), ls, st, bc_blk h r1 s r2 d n)
    | .inl n :: .inl d :: .inr (.inr ((3, n2), r2)) :: .inl s :: .inr (.inr ((3, n1), r1)) :: st => some (bc_g ((0 ≤ s ∧ 0 ≤ d ∧ 0 ≤ n) ∧ s + n ≤ (n1 : Int) ∧ d + n ≤ (n2 : Int)), ls, st, bc_blk h r1 s r2 d n)
    | _ => none
  | .ret 2 => match st with
    | .inr (.inr ((8, j), _)) :: st => some (none, ls, .inl ((bc_str j).length : Int) :: st, h)
    | _ => none
  | .ret 3 => match st with
    | .inl i :: .inr (.inr ((8, j), _)) :: st => some (bc_g (0 ≤ i ∧ i < ((bc_str j).length : Int)), ls, .inl ((bc_str j).getD i.toNat 0) :: st, h)
    | _ => none
  | _ => none
def bc_wp (x : Option (bc_G × bc_L × bc_St × bc_H)) (K : bc_L → bc_St → bc_H → Prop) : Prop :=
  match x with
  | some (none, ls, st, h) => K ls st h
  | some (some g, ls, st, h) => g.1 ∧ K ls st h
  | none => False
/-- what a new cell holds: 0; nothing, where something is named -/
def bc_new (h : bc_H) (np : Nat) (sh : Nat × Nat) : bc_H := match sh with
  | (0, c) => bc_row h np (fun j => match bc_ft c j.toNat with | (10, _) => 0 | (11, _) => 0 | (12, _) => 0 | _ => -1)
  | (5, _) => bc_row h np (fun _ => -1)
  | (6, _) => bc_row h np (fun _ => -1)
  | _ => bc_row h np (fun _ => 0)
abbrev bc_Q : Type := Option bc_V → bc_H → Prop
/-- a predicate of points: depth, method, place, cells made, locals, operands, memory, cells at the end, what is to hold then -/
abbrev bc_P : Type := Nat → Nat → Nat → Nat → bc_L → bc_St → bc_H → Nat → bc_Q → Prop
def bc_sw (J : Nat → Prop) (x : Int) (d : Nat) : List (Int × Int) → Prop
  | [] => J d
  | (v, t) :: l => (x = v → J t.toNat) ∧ (x ≠ v → bc_sw J x d l)
def bc_rt (k nq np : Nat) (Q : bc_Q) (v : Option bc_V) (h : bc_H) : Prop := match Nat.beq np nq, (bc_mt k).2.1, v with
  | true, 0, none => Q none h
  | true, 1, some (.inl x) => Q (some (.inl x)) h
  | true, 2, some (.inr (.inl x)) => Q (some (.inr (.inl x))) h
  | true, 3, some (.inl x) => (x = 0 ∨ x = 1) ∧ Q (some (.inl x)) h
  | _, _, _ => False
def bc_psh (r : Option bc_V) (st : bc_St) : bc_St := match r with
  | some v => v :: st
  | none => st
/-- a call: the callee's end, and on -/
def bc_cal (P : bc_P) (d k nq : Nat) (np : Nat) (st : bc_St) (h : bc_H) (K : Nat → bc_St → bc_H → Prop) : Prop := match d, bc_take (bc_mt k).1 st [] with
  | d + 1, some (as, st) => match Nat.ble (bc_cat st) 8 with
    | true => ∃ (nr : Nat) (M : bc_Q), (np ≤ nr ∧ nr ≤ nq) ∧ P d k 0 np (bc_pad (bc_ent as) (bc_mt k).2.2.1) [] h nr M ∧ ∀ r h', M r h' → K nr (bc_psh r st) h'
    | false => False
  | _, _ => False
def bc_ak : ArrayType → Nat
  | .int => 1 | .byte => 2 | .long => 3 | .boolean => 4 | _ => 0
/-- from here on, up to the next places that are come to by a jump -/
def bc_seg (ph : Bool) (P : bc_P) (d k nq : Nat) (Q : bc_Q) : List Instr → Nat → bc_L → bc_St → bc_H → Prop
  | [], _, _, _, _ => False
  | i :: is, np, ls, st, h => match i with
    | .goto t => P d k t.toNat np ls st h nq Q
    | .ifCond c t => match st with
      | .inl a :: st => (bc_yes c a 0 → P d k t.toNat np ls st h nq Q) ∧ (bc_not c a 0 → bc_seg ph P d k nq Q is np ls st h)
      | _ => False
    | .if_icmp c t => match st with
      | .inl b :: .inl a :: st => (bc_yes c a b → P d k t.toNat np ls st h nq Q) ∧ (bc_not c a b → bc_seg ph P d k nq Q is np ls st h)
      | _ => False
    | .lookupswitch t ps => match st with
      | .inl a :: st => bc_sw (fun t => P d k t np ls st h nq Q) a t.toNat ps.toList
      | _ => False
    | .ireturn => match st with
      | [v] => bc_rt k nq np Q (some v) h
      | _ => False
    | .lreturn => match st with
      | [v] => bc_rt k nq np Q (some v) h
      | _ => False
    | .return_ => bc_rt k nq np Q none h
    | .invokestatic n => bc_cal P d n nq np st h (fun nr st h => bc_seg ph P d k nq Q is nr ls st h)
    | .invokevirtual n => bc_cal P d n nq np st h (fun nr st h => bc_seg ph P d k nq Q is nr ls st h)
    | .invokespecial n => bc_cal P d n nq np st h (fun nr st h => bc_seg ph P d k nq Q is nr ls st h)
    | .new c => match ph, bc_SH[np]? with
      | false, some (0, c2) => (c = c2 ∧ np + 1 ≤ nq) ∧ bc_seg ph P d k nq Q is (np + 1) ls (.inr (.inr ((0, c), (np : Int))) :: st) (bc_new h np (0, c))
      | _, _ => False
    | .newarray a => match ph, st, bc_SH[np]? with
      | false, .inl n :: st, some (b, m) => ((b = bc_ak a ∧ n = (m : Int)) ∧ np + 1 ≤ nq) ∧ bc_seg ph P d k nq Q is (np + 1) ls (.inr (.inr ((b, m), (np : Int))) :: st) (bc_new h np (b, m))
      | _, _, _ => False
    | .anewarray c => match ph, st, bc_SH[np]? with
      | false, .inl n :: st, some (b, m) => ((b = c + 3 ∧ n = (m : Int)) ∧ np + 1 ≤ nq) ∧ bc_seg ph P d k nq Q is (np + 1) ls (.inr (.inr ((b, m), (np : Int))) :: st) (bc_new h np (b, m))
      | _, _, _ => False
    | i => bc_wp (bc_s1 ph i ls st h) (fun ls st h => bc_seg ph P d k nq Q is np ls st h)
end
