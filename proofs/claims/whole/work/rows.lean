section
-- ===== PART A: goes FIRST, ahead of the names: the tables' words, and 'selects' of the private methods out of them =====
/-- a private method of a class that the tables say can be made, by its rows of tables_1 -/
def lw_okq (q : MethodName × Nat) : Prop := (q.1.cls ≠ "java/lang/invoke/MethodHandle" ∧ q.1.cls ≠ "java/lang/invoke/VarHandle") ∧ Cond.instantiable q.1.cls q.2 ∈ tables_1 ∧ Cond.privateMethod q.1 ∈ tables_1 ∧ Cond.instanceMethod q.1 ∈ tables_1
theorem lw_p0 : lw_okq (⟨"AxisTable", "reckonAnew", "()V"⟩, 12) := ⟨⟨by decide +kernel, by decide +kernel⟩, List.mem_of_getElem? (i := 17) (by decide +kernel), List.mem_of_getElem? (i := 195) (by decide +kernel), List.mem_of_getElem? (i := 196) (by decide +kernel)⟩
theorem lw_p1 : lw_okq (⟨"AxisTable$Figures", "takeMeans", "(LAxisTable$Measured;)V"⟩, 12) := ⟨⟨by decide +kernel, by decide +kernel⟩, List.mem_of_getElem? (i := 144) (by decide +kernel), List.mem_of_getElem? (i := 207) (by decide +kernel), List.mem_of_getElem? (i := 208) (by decide +kernel)⟩
theorem lw_p2 : lw_okq (⟨"AxisTable$Measured", "slotOf", "(II)I"⟩, 4) := ⟨⟨by decide +kernel, by decide +kernel⟩, List.mem_of_getElem? (i := 77) (by decide +kernel), List.mem_of_getElem? (i := 219) (by decide +kernel), List.mem_of_getElem? (i := 220) (by decide +kernel)⟩
theorem lw_p3 : lw_okq (⟨"AxisTable$Figures", "takePlay", "()V"⟩, 12) := ⟨⟨by decide +kernel, by decide +kernel⟩, List.mem_of_getElem? (i := 144) (by decide +kernel), List.mem_of_getElem? (i := 243) (by decide +kernel), List.mem_of_getElem? (i := 244) (by decide +kernel)⟩
theorem lw_p4 : lw_okq (⟨"AxisTable$Figures", "poolWanted", "()V"⟩, 12) := ⟨⟨by decide +kernel, by decide +kernel⟩, List.mem_of_getElem? (i := 144) (by decide +kernel), List.mem_of_getElem? (i := 253) (by decide +kernel), List.mem_of_getElem? (i := 254) (by decide +kernel)⟩
theorem lw_p5 : lw_okq (⟨"AxisTable$Figures", "lastIsNotMore", "()Z"⟩, 12) := ⟨⟨by decide +kernel, by decide +kernel⟩, List.mem_of_getElem? (i := 144) (by decide +kernel), List.mem_of_getElem? (i := 257) (by decide +kernel), List.mem_of_getElem? (i := 258) (by decide +kernel)⟩
theorem lw_p6 : lw_okq (⟨"AxisTable$Figures", "makeCounts", "()V"⟩, 12) := ⟨⟨by decide +kernel, by decide +kernel⟩, List.mem_of_getElem? (i := 144) (by decide +kernel), List.mem_of_getElem? (i := 261) (by decide +kernel), List.mem_of_getElem? (i := 262) (by decide +kernel)⟩
theorem lw_p7 : lw_okq (⟨"AxisTable$Reader", "partIntoTokens", "(LAxisTable$Letters;)V"⟩, 6) := ⟨⟨by decide +kernel, by decide +kernel⟩, List.mem_of_getElem? (i := 45) (by decide +kernel), List.mem_of_getElem? (i := 369) (by decide +kernel), List.mem_of_getElem? (i := 370) (by decide +kernel)⟩
theorem lw_p8 : lw_okq (⟨"AxisTable$Letters", "spells", "(Ljava/lang/String;II)Z"⟩, 2) := ⟨⟨by decide +kernel, by decide +kernel⟩, List.mem_of_getElem? (i := 25) (by decide +kernel), List.mem_of_getElem? (i := 385) (by decide +kernel), List.mem_of_getElem? (i := 386) (by decide +kernel)⟩
theorem lw_p9 : lw_okq (⟨"AxisTable$Reader", "addToken", "(III)V"⟩, 6) := ⟨⟨by decide +kernel, by decide +kernel⟩, List.mem_of_getElem? (i := 45) (by decide +kernel), List.mem_of_getElem? (i := 442) (by decide +kernel), List.mem_of_getElem? (i := 443) (by decide +kernel)⟩
theorem lw_p10 : lw_okq (⟨"AxisTable$Reader", "readClause", "(LAxisTable$Measured;)Z"⟩, 6) := ⟨⟨by decide +kernel, by decide +kernel⟩, List.mem_of_getElem? (i := 45) (by decide +kernel), List.mem_of_getElem? (i := 454) (by decide +kernel), List.mem_of_getElem? (i := 455) (by decide +kernel)⟩
theorem lw_p11 : lw_okq (⟨"AxisTable$Reader", "goOn", "()V"⟩, 6) := ⟨⟨by decide +kernel, by decide +kernel⟩, List.mem_of_getElem? (i := 45) (by decide +kernel), List.mem_of_getElem? (i := 458) (by decide +kernel), List.mem_of_getElem? (i := 459) (by decide +kernel)⟩
theorem lw_p12 : lw_okq (⟨"AxisTable$Reader", "readRow", "(LAxisTable$Measured;I)Z"⟩, 6) := ⟨⟨by decide +kernel, by decide +kernel⟩, List.mem_of_getElem? (i := 45) (by decide +kernel), List.mem_of_getElem? (i := 462) (by decide +kernel), List.mem_of_getElem? (i := 463) (by decide +kernel)⟩
theorem lw_p13 : lw_okq (⟨"AxisTable$Reader", "readErr", "(LAxisTable$Measured;II)Z"⟩, 6) := ⟨⟨by decide +kernel, by decide +kernel⟩, List.mem_of_getElem? (i := 45) (by decide +kernel), List.mem_of_getElem? (i := 466) (by decide +kernel), List.mem_of_getElem? (i := 467) (by decide +kernel)⟩
theorem lw_p14 : lw_okq (⟨"AxisTable$Reader", "isSign", "(I)Z"⟩, 6) := ⟨⟨by decide +kernel, by decide +kernel⟩, List.mem_of_getElem? (i := 45) (by decide +kernel), List.mem_of_getElem? (i := 470) (by decide +kernel), List.mem_of_getElem? (i := 471) (by decide +kernel)⟩
theorem lw_p15 : lw_okq (⟨"AxisTable$Reader", "readNumber", "(II)I"⟩, 6) := ⟨⟨by decide +kernel, by decide +kernel⟩, List.mem_of_getElem? (i := 45) (by decide +kernel), List.mem_of_getElem? (i := 474) (by decide +kernel), List.mem_of_getElem? (i := 475) (by decide +kernel)⟩
def lw_privs_1 : List (MethodName × Nat) := [(⟨"AxisTable", "reckonAnew", "()V"⟩, 12), (⟨"AxisTable$Figures", "takeMeans", "(LAxisTable$Measured;)V"⟩, 12), (⟨"AxisTable$Measured", "slotOf", "(II)I"⟩, 4), (⟨"AxisTable$Figures", "takePlay", "()V"⟩, 12), (⟨"AxisTable$Figures", "poolWanted", "()V"⟩, 12), (⟨"AxisTable$Figures", "lastIsNotMore", "()Z"⟩, 12), (⟨"AxisTable$Figures", "makeCounts", "()V"⟩, 12), (⟨"AxisTable$Reader", "partIntoTokens", "(LAxisTable$Letters;)V"⟩, 6), (⟨"AxisTable$Letters", "spells", "(Ljava/lang/String;II)Z"⟩, 2), (⟨"AxisTable$Reader", "addToken", "(III)V"⟩, 6), (⟨"AxisTable$Reader", "readClause", "(LAxisTable$Measured;)Z"⟩, 6), (⟨"AxisTable$Reader", "goOn", "()V"⟩, 6), (⟨"AxisTable$Reader", "readRow", "(LAxisTable$Measured;I)Z"⟩, 6), (⟨"AxisTable$Reader", "readErr", "(LAxisTable$Measured;II)Z"⟩, 6), (⟨"AxisTable$Reader", "isSign", "(I)Z"⟩, 6), (⟨"AxisTable$Reader", "readNumber", "(II)I"⟩, 6)]
theorem lw_r1 : ∀ q ∈ lw_privs_1, lw_okq q := List.forall_mem_cons.mpr ⟨lw_p0, List.forall_mem_cons.mpr ⟨lw_p1, List.forall_mem_cons.mpr ⟨lw_p2, List.forall_mem_cons.mpr ⟨lw_p3, List.forall_mem_cons.mpr ⟨lw_p4, List.forall_mem_cons.mpr ⟨lw_p5, List.forall_mem_cons.mpr ⟨lw_p6, List.forall_mem_cons.mpr ⟨lw_p7, List.forall_mem_cons.mpr ⟨lw_p8, List.forall_mem_cons.mpr ⟨lw_p9, List.forall_mem_cons.mpr ⟨lw_p10, List.forall_mem_cons.mpr ⟨lw_p11, List.forall_mem_cons.mpr ⟨lw_p12, List.forall_mem_cons.mpr ⟨lw_p13, List.forall_mem_cons.mpr ⟨lw_p14, List.forall_mem_cons.mpr ⟨lw_p15, fun _ h => absurd h List.not_mem_nil⟩⟩⟩⟩⟩⟩⟩⟩⟩⟩⟩⟩⟩⟩⟩⟩
theorem lw_p16 : lw_okq (⟨"AxisTable$Reader", "readAxis", "(LAxisTable$Measured;)Z"⟩, 6) := ⟨⟨by decide +kernel, by decide +kernel⟩, List.mem_of_getElem? (i := 45) (by decide +kernel), List.mem_of_getElem? (i := 482) (by decide +kernel), List.mem_of_getElem? (i := 483) (by decide +kernel)⟩
theorem lw_p17 : lw_okq (⟨"AxisTable$Reader", "readOne", "(LAxisTable$Measured;)Z"⟩, 6) := ⟨⟨by decide +kernel, by decide +kernel⟩, List.mem_of_getElem? (i := 45) (by decide +kernel), List.mem_of_getElem? (i := 492) (by decide +kernel), List.mem_of_getElem? (i := 493) (by decide +kernel)⟩
theorem lw_p18 : lw_okq (⟨"AxisTable", "refusalOfRun", "(III)I"⟩, 12) := ⟨⟨by decide +kernel, by decide +kernel⟩, List.mem_of_getElem? (i := 17) (by decide +kernel), List.mem_of_getElem? (i := 524) (by decide +kernel), List.mem_of_getElem? (i := 525) (by decide +kernel)⟩
theorem lw_p19 : lw_okq (⟨"AxisTable", "lettersOfLabels", "()I"⟩, 12) := ⟨⟨by decide +kernel, by decide +kernel⟩, List.mem_of_getElem? (i := 17) (by decide +kernel), List.mem_of_getElem? (i := 660) (by decide +kernel), List.mem_of_getElem? (i := 661) (by decide +kernel)⟩
theorem lw_p20 : lw_okq (⟨"AxisTable", "refusalOfLabel", "(I)I"⟩, 12) := ⟨⟨by decide +kernel, by decide +kernel⟩, List.mem_of_getElem? (i := 17) (by decide +kernel), List.mem_of_getElem? (i := 689) (by decide +kernel), List.mem_of_getElem? (i := 690) (by decide +kernel)⟩
theorem lw_p21 : lw_okq (⟨"AxisTable", "refusalOfTwo", "(II)I"⟩, 12) := ⟨⟨by decide +kernel, by decide +kernel⟩, List.mem_of_getElem? (i := 17) (by decide +kernel), List.mem_of_getElem? (i := 701) (by decide +kernel), List.mem_of_getElem? (i := 702) (by decide +kernel)⟩
theorem lw_p22 : lw_okq (⟨"AxisTable$Letters", "hasAt", "(ILAxisTable$Letters;)Z"⟩, 2) := ⟨⟨by decide +kernel, by decide +kernel⟩, List.mem_of_getElem? (i := 25) (by decide +kernel), List.mem_of_getElem? (i := 740) (by decide +kernel), List.mem_of_getElem? (i := 741) (by decide +kernel)⟩
theorem lw_p23 : lw_okq (⟨"AxisTableModel", "rests", "()V"⟩, 23) := ⟨⟨by decide +kernel, by decide +kernel⟩, List.mem_of_getElem? (i := 759) (by decide +kernel), List.mem_of_getElem? (i := 765) (by decide +kernel), List.mem_of_getElem? (i := 766) (by decide +kernel)⟩
theorem lw_p24 : lw_okq (⟨"AxisTableModel", "layTable", "(I)V"⟩, 23) := ⟨⟨by decide +kernel, by decide +kernel⟩, List.mem_of_getElem? (i := 759) (by decide +kernel), List.mem_of_getElem? (i := 769) (by decide +kernel), List.mem_of_getElem? (i := 770) (by decide +kernel)⟩
theorem lw_p25 : lw_okq (⟨"AxisTableModel", "wanted", "(II)I"⟩, 23) := ⟨⟨by decide +kernel, by decide +kernel⟩, List.mem_of_getElem? (i := 759) (by decide +kernel), List.mem_of_getElem? (i := 773) (by decide +kernel), List.mem_of_getElem? (i := 774) (by decide +kernel)⟩
theorem lw_p26 : lw_okq (⟨"AxisTableModel", "mean", "(III)I"⟩, 23) := ⟨⟨by decide +kernel, by decide +kernel⟩, List.mem_of_getElem? (i := 759) (by decide +kernel), List.mem_of_getElem? (i := 777) (by decide +kernel), List.mem_of_getElem? (i := 778) (by decide +kernel)⟩
theorem lw_p27 : lw_okq (⟨"AxisTableModel", "sixtyPlays", "(I)I"⟩, 23) := ⟨⟨by decide +kernel, by decide +kernel⟩, List.mem_of_getElem? (i := 759) (by decide +kernel), List.mem_of_getElem? (i := 784) (by decide +kernel), List.mem_of_getElem? (i := 785) (by decide +kernel)⟩
theorem lw_p28 : lw_okq (⟨"AxisTableModel", "countAt", "(I)I"⟩, 23) := ⟨⟨by decide +kernel, by decide +kernel⟩, List.mem_of_getElem? (i := 759) (by decide +kernel), List.mem_of_getElem? (i := 788) (by decide +kernel), List.mem_of_getElem? (i := 789) (by decide +kernel)⟩
theorem lw_p29 : lw_okq (⟨"AxisTableModel", "reads", "(Z)Z"⟩, 23) := ⟨⟨by decide +kernel, by decide +kernel⟩, List.mem_of_getElem? (i := 759) (by decide +kernel), List.mem_of_getElem? (i := 880) (by decide +kernel), List.mem_of_getElem? (i := 881) (by decide +kernel)⟩
theorem lw_p30 : lw_okq (⟨"AxisTableModel", "nextToken", "()V"⟩, 23) := ⟨⟨by decide +kernel, by decide +kernel⟩, List.mem_of_getElem? (i := 759) (by decide +kernel), List.mem_of_getElem? (i := 884) (by decide +kernel), List.mem_of_getElem? (i := 885) (by decide +kernel)⟩
theorem lw_p31 : lw_okq (⟨"AxisTableModel", "takesClause", "()Z"⟩, 23) := ⟨⟨by decide +kernel, by decide +kernel⟩, List.mem_of_getElem? (i := 759) (by decide +kernel), List.mem_of_getElem? (i := 898) (by decide +kernel), List.mem_of_getElem? (i := 899) (by decide +kernel)⟩
def lw_privs_2 : List (MethodName × Nat) := [(⟨"AxisTable$Reader", "readAxis", "(LAxisTable$Measured;)Z"⟩, 6), (⟨"AxisTable$Reader", "readOne", "(LAxisTable$Measured;)Z"⟩, 6), (⟨"AxisTable", "refusalOfRun", "(III)I"⟩, 12), (⟨"AxisTable", "lettersOfLabels", "()I"⟩, 12), (⟨"AxisTable", "refusalOfLabel", "(I)I"⟩, 12), (⟨"AxisTable", "refusalOfTwo", "(II)I"⟩, 12), (⟨"AxisTable$Letters", "hasAt", "(ILAxisTable$Letters;)Z"⟩, 2), (⟨"AxisTableModel", "rests", "()V"⟩, 23), (⟨"AxisTableModel", "layTable", "(I)V"⟩, 23), (⟨"AxisTableModel", "wanted", "(II)I"⟩, 23), (⟨"AxisTableModel", "mean", "(III)I"⟩, 23), (⟨"AxisTableModel", "sixtyPlays", "(I)I"⟩, 23), (⟨"AxisTableModel", "countAt", "(I)I"⟩, 23), (⟨"AxisTableModel", "reads", "(Z)Z"⟩, 23), (⟨"AxisTableModel", "nextToken", "()V"⟩, 23), (⟨"AxisTableModel", "takesClause", "()Z"⟩, 23)]
theorem lw_r2 : ∀ q ∈ lw_privs_2, lw_okq q := List.forall_mem_cons.mpr ⟨lw_p16, List.forall_mem_cons.mpr ⟨lw_p17, List.forall_mem_cons.mpr ⟨lw_p18, List.forall_mem_cons.mpr ⟨lw_p19, List.forall_mem_cons.mpr ⟨lw_p20, List.forall_mem_cons.mpr ⟨lw_p21, List.forall_mem_cons.mpr ⟨lw_p22, List.forall_mem_cons.mpr ⟨lw_p23, List.forall_mem_cons.mpr ⟨lw_p24, List.forall_mem_cons.mpr ⟨lw_p25, List.forall_mem_cons.mpr ⟨lw_p26, List.forall_mem_cons.mpr ⟨lw_p27, List.forall_mem_cons.mpr ⟨lw_p28, List.forall_mem_cons.mpr ⟨lw_p29, List.forall_mem_cons.mpr ⟨lw_p30, List.forall_mem_cons.mpr ⟨lw_p31, fun _ h => absurd h List.not_mem_nil⟩⟩⟩⟩⟩⟩⟩⟩⟩⟩⟩⟩⟩⟩⟩⟩
theorem lw_p32 : lw_okq (⟨"AxisTableModel", "wordHere", "()I"⟩, 23) := ⟨⟨by decide +kernel, by decide +kernel⟩, List.mem_of_getElem? (i := 759) (by decide +kernel), List.mem_of_getElem? (i := 902) (by decide +kernel), List.mem_of_getElem? (i := 903) (by decide +kernel)⟩
theorem lw_p33 : lw_okq (⟨"AxisTableModel", "takesAxis", "()Z"⟩, 23) := ⟨⟨by decide +kernel, by decide +kernel⟩, List.mem_of_getElem? (i := 759) (by decide +kernel), List.mem_of_getElem? (i := 906) (by decide +kernel), List.mem_of_getElem? (i := 907) (by decide +kernel)⟩
theorem lw_p34 : lw_okq (⟨"AxisTableModel", "takesNumber", "(II)Z"⟩, 23) := ⟨⟨by decide +kernel, by decide +kernel⟩, List.mem_of_getElem? (i := 759) (by decide +kernel), List.mem_of_getElem? (i := 910) (by decide +kernel), List.mem_of_getElem? (i := 911) (by decide +kernel)⟩
theorem lw_p35 : lw_okq (⟨"AxisTableModel", "noRuns", "()V"⟩, 23) := ⟨⟨by decide +kernel, by decide +kernel⟩, List.mem_of_getElem? (i := 759) (by decide +kernel), List.mem_of_getElem? (i := 914) (by decide +kernel), List.mem_of_getElem? (i := 915) (by decide +kernel)⟩
theorem lw_p36 : lw_okq (⟨"AxisTableModel", "takesAt", "()Z"⟩, 23) := ⟨⟨by decide +kernel, by decide +kernel⟩, List.mem_of_getElem? (i := 759) (by decide +kernel), List.mem_of_getElem? (i := 918) (by decide +kernel), List.mem_of_getElem? (i := 919) (by decide +kernel)⟩
theorem lw_p37 : lw_okq (⟨"AxisTableModel", "takesErr", "()Z"⟩, 23) := ⟨⟨by decide +kernel, by decide +kernel⟩, List.mem_of_getElem? (i := 759) (by decide +kernel), List.mem_of_getElem? (i := 925) (by decide +kernel), List.mem_of_getElem? (i := 926) (by decide +kernel)⟩
theorem lw_p38 : lw_okq (⟨"AxisTableModel", "adds", "(IIII)V"⟩, 23) := ⟨⟨by decide +kernel, by decide +kernel⟩, List.mem_of_getElem? (i := 759) (by decide +kernel), List.mem_of_getElem? (i := 929) (by decide +kernel), List.mem_of_getElem? (i := 930) (by decide +kernel)⟩
theorem lw_p39 : lw_okq (⟨"AxisTableModel", "takesRuns", "(I)Z"⟩, 23) := ⟨⟨by decide +kernel, by decide +kernel⟩, List.mem_of_getElem? (i := 759) (by decide +kernel), List.mem_of_getElem? (i := 933) (by decide +kernel), List.mem_of_getElem? (i := 934) (by decide +kernel)⟩
theorem lw_p40 : lw_okq (⟨"AxisTableModel", "isPoint", "(I)Z"⟩, 23) := ⟨⟨by decide +kernel, by decide +kernel⟩, List.mem_of_getElem? (i := 759) (by decide +kernel), List.mem_of_getElem? (i := 946) (by decide +kernel), List.mem_of_getElem? (i := 947) (by decide +kernel)⟩
theorem lw_p41 : lw_okq (⟨"AxisTableModel", "minds", "()V"⟩, 23) := ⟨⟨by decide +kernel, by decide +kernel⟩, List.mem_of_getElem? (i := 759) (by decide +kernel), List.mem_of_getElem? (i := 956) (by decide +kernel), List.mem_of_getElem? (i := 957) (by decide +kernel)⟩
theorem lw_p42 : lw_okq (⟨"AxisTableModel", "copy", "(II)V"⟩, 23) := ⟨⟨by decide +kernel, by decide +kernel⟩, List.mem_of_getElem? (i := 759) (by decide +kernel), List.mem_of_getElem? (i := 960) (by decide +kernel), List.mem_of_getElem? (i := 961) (by decide +kernel)⟩
theorem lw_p43 : lw_okq (⟨"AxisTableModel", "part", "(III)I"⟩, 23) := ⟨⟨by decide +kernel, by decide +kernel⟩, List.mem_of_getElem? (i := 759) (by decide +kernel), List.mem_of_getElem? (i := 990) (by decide +kernel), List.mem_of_getElem? (i := 991) (by decide +kernel)⟩
theorem lw_p44 : lw_okq (⟨"AxisTableModel", "missed", "(II)I"⟩, 23) := ⟨⟨by decide +kernel, by decide +kernel⟩, List.mem_of_getElem? (i := 759) (by decide +kernel), List.mem_of_getElem? (i := 994) (by decide +kernel), List.mem_of_getElem? (i := 995) (by decide +kernel)⟩
theorem lw_p45 : lw_okq (⟨"AxisTableModel", "firstOf", "(I)I"⟩, 23) := ⟨⟨by decide +kernel, by decide +kernel⟩, List.mem_of_getElem? (i := 759) (by decide +kernel), List.mem_of_getElem? (i := 1003) (by decide +kernel), List.mem_of_getElem? (i := 1004) (by decide +kernel)⟩
theorem lw_p46 : lw_okq (⟨"AxisTableModel", "last", "()I"⟩, 23) := ⟨⟨by decide +kernel, by decide +kernel⟩, List.mem_of_getElem? (i := 759) (by decide +kernel), List.mem_of_getElem? (i := 1023) (by decide +kernel), List.mem_of_getElem? (i := 1024) (by decide +kernel)⟩
theorem lw_p47 : lw_okq (⟨"AxisTableModel", "playNow", "()I"⟩, 23) := ⟨⟨by decide +kernel, by decide +kernel⟩, List.mem_of_getElem? (i := 759) (by decide +kernel), List.mem_of_getElem? (i := 1041) (by decide +kernel), List.mem_of_getElem? (i := 1042) (by decide +kernel)⟩
def lw_privs_3 : List (MethodName × Nat) := [(⟨"AxisTableModel", "wordHere", "()I"⟩, 23), (⟨"AxisTableModel", "takesAxis", "()Z"⟩, 23), (⟨"AxisTableModel", "takesNumber", "(II)Z"⟩, 23), (⟨"AxisTableModel", "noRuns", "()V"⟩, 23), (⟨"AxisTableModel", "takesAt", "()Z"⟩, 23), (⟨"AxisTableModel", "takesErr", "()Z"⟩, 23), (⟨"AxisTableModel", "adds", "(IIII)V"⟩, 23), (⟨"AxisTableModel", "takesRuns", "(I)Z"⟩, 23), (⟨"AxisTableModel", "isPoint", "(I)Z"⟩, 23), (⟨"AxisTableModel", "minds", "()V"⟩, 23), (⟨"AxisTableModel", "copy", "(II)V"⟩, 23), (⟨"AxisTableModel", "part", "(III)I"⟩, 23), (⟨"AxisTableModel", "missed", "(II)I"⟩, 23), (⟨"AxisTableModel", "firstOf", "(I)I"⟩, 23), (⟨"AxisTableModel", "last", "()I"⟩, 23), (⟨"AxisTableModel", "playNow", "()I"⟩, 23)]
theorem lw_r3 : ∀ q ∈ lw_privs_3, lw_okq q := List.forall_mem_cons.mpr ⟨lw_p32, List.forall_mem_cons.mpr ⟨lw_p33, List.forall_mem_cons.mpr ⟨lw_p34, List.forall_mem_cons.mpr ⟨lw_p35, List.forall_mem_cons.mpr ⟨lw_p36, List.forall_mem_cons.mpr ⟨lw_p37, List.forall_mem_cons.mpr ⟨lw_p38, List.forall_mem_cons.mpr ⟨lw_p39, List.forall_mem_cons.mpr ⟨lw_p40, List.forall_mem_cons.mpr ⟨lw_p41, List.forall_mem_cons.mpr ⟨lw_p42, List.forall_mem_cons.mpr ⟨lw_p43, List.forall_mem_cons.mpr ⟨lw_p44, List.forall_mem_cons.mpr ⟨lw_p45, List.forall_mem_cons.mpr ⟨lw_p46, List.forall_mem_cons.mpr ⟨lw_p47, fun _ h => absurd h List.not_mem_nil⟩⟩⟩⟩⟩⟩⟩⟩⟩⟩⟩⟩⟩⟩⟩⟩
theorem lw_p48 : lw_okq (⟨"AxisTableModel", "runs", "()I"⟩, 23) := ⟨⟨by decide +kernel, by decide +kernel⟩, List.mem_of_getElem? (i := 759) (by decide +kernel), List.mem_of_getElem? (i := 1045) (by decide +kernel), List.mem_of_getElem? (i := 1046) (by decide +kernel)⟩
theorem lw_p49 : lw_okq (⟨"AxisTableModel", "sheetLong", "()I"⟩, 23) := ⟨⟨by decide +kernel, by decide +kernel⟩, List.mem_of_getElem? (i := 759) (by decide +kernel), List.mem_of_getElem? (i := 1049) (by decide +kernel), List.mem_of_getElem? (i := 1050) (by decide +kernel)⟩
theorem lw_p50 : lw_okq (⟨"AxisTableModel", "laySheet", "()V"⟩, 23) := ⟨⟨by decide +kernel, by decide +kernel⟩, List.mem_of_getElem? (i := 759) (by decide +kernel), List.mem_of_getElem? (i := 1053) (by decide +kernel), List.mem_of_getElem? (i := 1054) (by decide +kernel)⟩
theorem lw_p51 : lw_okq (⟨"AxisTableModel", "puts", "(I)V"⟩, 23) := ⟨⟨by decide +kernel, by decide +kernel⟩, List.mem_of_getElem? (i := 759) (by decide +kernel), List.mem_of_getElem? (i := 1057) (by decide +kernel), List.mem_of_getElem? (i := 1058) (by decide +kernel)⟩
theorem lw_p52 : lw_okq (⟨"AxisTableModel", "putsNumber", "(I)V"⟩, 23) := ⟨⟨by decide +kernel, by decide +kernel⟩, List.mem_of_getElem? (i := 759) (by decide +kernel), List.mem_of_getElem? (i := 1061) (by decide +kernel), List.mem_of_getElem? (i := 1062) (by decide +kernel)⟩
theorem lw_p53 : lw_okq (⟨"AxisTableModel", "lettersOfAll", "()I"⟩, 23) := ⟨⟨by decide +kernel, by decide +kernel⟩, List.mem_of_getElem? (i := 759) (by decide +kernel), List.mem_of_getElem? (i := 1065) (by decide +kernel), List.mem_of_getElem? (i := 1066) (by decide +kernel)⟩
def lw_privs_4 : List (MethodName × Nat) := [(⟨"AxisTableModel", "runs", "()I"⟩, 23), (⟨"AxisTableModel", "sheetLong", "()I"⟩, 23), (⟨"AxisTableModel", "laySheet", "()V"⟩, 23), (⟨"AxisTableModel", "puts", "(I)V"⟩, 23), (⟨"AxisTableModel", "putsNumber", "(I)V"⟩, 23), (⟨"AxisTableModel", "lettersOfAll", "()I"⟩, 23)]
theorem lw_r4 : ∀ q ∈ lw_privs_4, lw_okq q := List.forall_mem_cons.mpr ⟨lw_p48, List.forall_mem_cons.mpr ⟨lw_p49, List.forall_mem_cons.mpr ⟨lw_p50, List.forall_mem_cons.mpr ⟨lw_p51, List.forall_mem_cons.mpr ⟨lw_p52, List.forall_mem_cons.mpr ⟨lw_p53, fun _ h => absurd h List.not_mem_nil⟩⟩⟩⟩⟩⟩
def lw_privs : List (MethodName × Nat) := lw_privs_1 ++ (lw_privs_2 ++ (lw_privs_3 ++ (lw_privs_4)))
def lw_tbl : List Cond := k2_sels lw_privs ++ tables_1
theorem lw_privs_ok : ∀ q ∈ lw_privs, lw_okq q := by
  show ∀ q ∈ lw_privs_1 ++ (lw_privs_2 ++ (lw_privs_3 ++ (lw_privs_4))), lw_okq q
  exact List.forall_mem_append.mpr ⟨lw_r1, List.forall_mem_append.mpr ⟨lw_r2, List.forall_mem_append.mpr ⟨lw_r3, lw_r4⟩⟩⟩
end
section
def RX0 : String := "AxisTable$Figures"
def TX0 : u_T := fun k => match k with
  | 0 => ("AxisTable$Figures", "points", "I", false)
  | 1 => ("AxisTable$Figures", "step", "I", false)
  | 2 => ("AxisTable$Figures", "means", "[I", true)
  | 3 => ("AxisTable$Figures", "wanted", "[I", true)
  | 4 => ("AxisTable$Figures", "pools", "I", false)
  | 5 => ("AxisTable$Figures", "firsts", "[I", true)
  | 6 => ("AxisTable$Figures", "sizes", "[I", true)
  | 7 => ("AxisTable$Figures", "totals", "[I", true)
  | 8 => ("AxisTable$Figures", "poolOf", "[I", true)
  | 9 => ("AxisTable$Figures", "counts", "[I", true)
  | 10 => ("AxisTable$Figures", "playTotal", "I", false)
  | _ => ("AxisTable$Figures", "playCounts", "I", false)
def tyX0 : Nat → FieldType := fun k => match k with
  | 0 => .int
  | 1 => .int
  | 2 => .array .int
  | 3 => .array .int
  | 4 => .int
  | 5 => .array .int
  | 6 => .array .int
  | 7 => .array .int
  | 8 => .array .int
  | 9 => .array .int
  | 10 => .int
  | _ => .int
theorem nmX0 : ∀ a, a < 12 → ∀ b, b < 12 → a ≠ b → (TX0 a).2.1 ≠ (TX0 b).2.1 := by decide +kernel
theorem tyX0_ok : ∀ k, k < 12 → parseFieldDescriptor (TX0 k).2.2.1 = some (tyX0 k) := by decide +kernel
abbrev cX0_init : ByteArray := prog_2_method_1_code
def yX0_init : MethodName := ⟨RX0, "<init>", "()V"⟩
abbrev cX0_reckon : ByteArray := prog_2_method_2_code
def yX0_reckon : MethodName := ⟨RX0, "reckon", "(LAxisTable$Measured;)V"⟩
abbrev cX0_takeMeans : ByteArray := prog_2_method_3_code
def yX0_takeMeans : MethodName := ⟨RX0, "takeMeans", "(LAxisTable$Measured;)V"⟩
abbrev cX0_takePlay : ByteArray := prog_2_method_4_code
def yX0_takePlay : MethodName := ⟨RX0, "takePlay", "()V"⟩
abbrev cX0_poolWanted : ByteArray := prog_2_method_5_code
def yX0_poolWanted : MethodName := ⟨RX0, "poolWanted", "()V"⟩
abbrev cX0_lastIsNotMore : ByteArray := prog_2_method_6_code
def yX0_lastIsNotMore : MethodName := ⟨RX0, "lastIsNotMore", "()Z"⟩
abbrev cX0_makeCounts : ByteArray := prog_2_method_7_code
def yX0_makeCounts : MethodName := ⟨RX0, "makeCounts", "()V"⟩
abbrev cX0_hasPoint : ByteArray := prog_2_method_8_code
def yX0_hasPoint : MethodName := ⟨RX0, "hasPoint", "(I)Z"⟩
abbrev cX0_hasPlace : ByteArray := prog_2_method_9_code
def yX0_hasPlace : MethodName := ⟨RX0, "hasPlace", "(I)Z"⟩
abbrev cX0_meanAt : ByteArray := prog_2_method_10_code
def yX0_meanAt : MethodName := ⟨RX0, "meanAt", "(II)I"⟩
abbrev cX0_slopeAt : ByteArray := prog_2_method_11_code
def yX0_slopeAt : MethodName := ⟨RX0, "slopeAt", "(I)I"⟩
abbrev cX0_wantedAt : ByteArray := prog_2_method_12_code
def yX0_wantedAt : MethodName := ⟨RX0, "wantedAt", "(I)I"⟩
abbrev cX0_poolFirstAt : ByteArray := prog_2_method_13_code
def yX0_poolFirstAt : MethodName := ⟨RX0, "poolFirstAt", "(I)I"⟩
abbrev cX0_poolSizeAt : ByteArray := prog_2_method_14_code
def yX0_poolSizeAt : MethodName := ⟨RX0, "poolSizeAt", "(I)I"⟩
abbrev cX0_poolTotalAt : ByteArray := prog_2_method_15_code
def yX0_poolTotalAt : MethodName := ⟨RX0, "poolTotalAt", "(I)I"⟩
abbrev cX0_tableAt : ByteArray := prog_2_method_16_code
def yX0_tableAt : MethodName := ⟨RX0, "tableAt", "(I)I"⟩
abbrev cX0_offsetAt : ByteArray := prog_2_method_17_code
def yX0_offsetAt : MethodName := ⟨RX0, "offsetAt", "(I)I"⟩
abbrev cX0_missAt : ByteArray := prog_2_method_18_code
def yX0_missAt : MethodName := ⟨RX0, "missAt", "(II)I"⟩
abbrev cX0_worstSlot : ByteArray := prog_2_method_19_code
def yX0_worstSlot : MethodName := ⟨RX0, "worstSlot", "()I"⟩
abbrev cX0_countAt : ByteArray := prog_2_method_20_code
def yX0_countAt : MethodName := ⟨RX0, "countAt", "(I)I"⟩
abbrev cX0_placeAt : ByteArray := prog_2_method_21_code
def yX0_placeAt : MethodName := ⟨RX0, "placeAt", "(I)I"⟩
abbrev cX0_writeOut : ByteArray := prog_2_method_22_code
def yX0_writeOut : MethodName := ⟨RX0, "writeOut", "(LAxisTable$Letters;)V"⟩
def RX1 : String := "AxisTable$Letters"
def TX1 : u_T := fun k => match k with
  | 0 => ("AxisTable$Letters", "letters", "[I", true)
  | _ => ("AxisTable$Letters", "size", "I", false)
def tyX1 : Nat → FieldType := fun k => match k with
  | 0 => .array .int
  | _ => .int
theorem nmX1 : ∀ a, a < 2 → ∀ b, b < 2 → a ≠ b → (TX1 a).2.1 ≠ (TX1 b).2.1 := by decide +kernel
theorem tyX1_ok : ∀ k, k < 2 → parseFieldDescriptor (TX1 k).2.2.1 = some (tyX1 k) := by decide +kernel
abbrev cX1_init : ByteArray := prog_3_method_1_code
def yX1_init : MethodName := ⟨RX1, "<init>", "(I)V"⟩
abbrev cX1_hasRoomFor : ByteArray := prog_3_method_2_code
def yX1_hasRoomFor : MethodName := ⟨RX1, "hasRoomFor", "(I)Z"⟩
abbrev cX1_at : ByteArray := prog_3_method_3_code
def yX1_at : MethodName := ⟨RX1, "at", "(I)I"⟩
abbrev cX1_put : ByteArray := prog_3_method_4_code
def yX1_put : MethodName := ⟨RX1, "put", "(I)V"⟩
abbrev cX1_putAt : ByteArray := prog_3_method_5_code
def yX1_putAt : MethodName := ⟨RX1, "putAt", "(II)V"⟩
abbrev cX1_putAll : ByteArray := prog_3_method_6_code
def yX1_putAll : MethodName := ⟨RX1, "putAll", "(LAxisTable$Letters;)V"⟩
abbrev cX1_putNumber : ByteArray := prog_3_method_7_code
def yX1_putNumber : MethodName := ⟨RX1, "putNumber", "(I)V"⟩
abbrev cX1_remove : ByteArray := prog_3_method_8_code
def yX1_remove : MethodName := ⟨RX1, "remove", "(II)V"⟩
abbrev cX1_reverse : ByteArray := prog_3_method_9_code
def yX1_reverse : MethodName := ⟨RX1, "reverse", "()V"⟩
abbrev cX1_orderAgainst : ByteArray := prog_3_method_10_code
def yX1_orderAgainst : MethodName := ⟨RX1, "orderAgainst", "(LAxisTable$Letters;)I"⟩
abbrev cX1_timesOf : ByteArray := prog_3_method_11_code
def yX1_timesOf : MethodName := ⟨RX1, "timesOf", "(LAxisTable$Letters;)I"⟩
abbrev cX1_hasAt : ByteArray := prog_3_method_12_code
def yX1_hasAt : MethodName := ⟨RX1, "hasAt", "(ILAxisTable$Letters;)Z"⟩
abbrev cX1_wordIn : ByteArray := prog_3_method_13_code
def yX1_wordIn : MethodName := ⟨RX1, "wordIn", "(II)I"⟩
abbrev cX1_spells : ByteArray := prog_3_method_14_code
def yX1_spells : MethodName := ⟨RX1, "spells", "(Ljava/lang/String;II)Z"⟩
abbrev cX1_numberIn : ByteArray := prog_3_method_15_code
def yX1_numberIn : MethodName := ⟨RX1, "numberIn", "(III)I"⟩
def RX2 : String := "AxisTable$Measured"
def TX2 : u_T := fun k => match k with
  | 0 => ("AxisTable$Measured", "points", "I", false)
  | 1 => ("AxisTable$Measured", "step", "I", false)
  | 2 => ("AxisTable$Measured", "counts", "[I", true)
  | _ => ("AxisTable$Measured", "errs", "[I", true)
def tyX2 : Nat → FieldType := fun k => match k with
  | 0 => .int
  | 1 => .int
  | 2 => .array .int
  | _ => .array .int
theorem nmX2 : ∀ a, a < 4 → ∀ b, b < 4 → a ≠ b → (TX2 a).2.1 ≠ (TX2 b).2.1 := by decide +kernel
theorem tyX2_ok : ∀ k, k < 4 → parseFieldDescriptor (TX2 k).2.2.1 = some (tyX2 k) := by decide +kernel
abbrev cX2_init : ByteArray := prog_4_method_1_code
def yX2_init : MethodName := ⟨RX2, "<init>", "()V"⟩
abbrev cX2_begin : ByteArray := prog_4_method_2_code
def yX2_begin : MethodName := ⟨RX2, "begin", "(II)V"⟩
abbrev cX2_hasPoint : ByteArray := prog_4_method_3_code
def yX2_hasPoint : MethodName := ⟨RX2, "hasPoint", "(I)Z"⟩
abbrev cX2_slotOf : ByteArray := prog_4_method_4_code
def yX2_slotOf : MethodName := ⟨RX2, "slotOf", "(II)I"⟩
abbrev cX2_countAt : ByteArray := prog_4_method_5_code
def yX2_countAt : MethodName := ⟨RX2, "countAt", "(II)I"⟩
abbrev cX2_errAt : ByteArray := prog_4_method_6_code
def yX2_errAt : MethodName := ⟨RX2, "errAt", "(III)I"⟩
abbrev cX2_add : ByteArray := prog_4_method_7_code
def yX2_add : MethodName := ⟨RX2, "add", "(III)I"⟩
abbrev cX2_forget : ByteArray := prog_4_method_8_code
def yX2_forget : MethodName := ⟨RX2, "forget", "(II)I"⟩
abbrev cX2_meanOf : ByteArray := prog_4_method_9_code
def yX2_meanOf : MethodName := ⟨RX2, "meanOf", "(II)I"⟩
abbrev cX2_countOfAll : ByteArray := prog_4_method_10_code
def yX2_countOfAll : MethodName := ⟨RX2, "countOfAll", "()I"⟩
abbrev cX2_copyFrom : ByteArray := prog_4_method_11_code
def yX2_copyFrom : MethodName := ⟨RX2, "copyFrom", "(LAxisTable$Measured;)V"⟩
def RX3 : String := "AxisTable$Moment"
def TX3 : u_T := fun k => match k with
  | 0 => ("AxisTable$Moment", "measured", "LAxisTable$Measured;", true)
  | 1 => ("AxisTable$Moment", "place", "I", false)
  | 2 => ("AxisTable$Moment", "screw", "I", false)
  | 3 => ("AxisTable$Moment", "turns", "I", false)
  | 4 => ("AxisTable$Moment", "travel", "I", false)
  | _ => ("AxisTable$Moment", "wentUp", "Z", false)
def tyX3 : Nat → FieldType := fun k => match k with
  | 0 => .object "AxisTable$Measured"
  | 1 => .int
  | 2 => .int
  | 3 => .int
  | 4 => .int
  | _ => .boolean
theorem nmX3 : ∀ a, a < 6 → ∀ b, b < 6 → a ≠ b → (TX3 a).2.1 ≠ (TX3 b).2.1 := by decide +kernel
theorem tyX3_ok : ∀ k, k < 6 → parseFieldDescriptor (TX3 k).2.2.1 = some (tyX3 k) := by decide +kernel
abbrev cX3_init : ByteArray := prog_5_method_1_code
def yX3_init : MethodName := ⟨RX3, "<init>", "()V"⟩
abbrev cX3_rest : ByteArray := prog_5_method_2_code
def yX3_rest : MethodName := ⟨RX3, "rest", "(I)V"⟩
abbrev cX3_go : ByteArray := prog_5_method_3_code
def yX3_go : MethodName := ⟨RX3, "go", "(IIZ)V"⟩
abbrev cX3_copyFrom : ByteArray := prog_5_method_4_code
def yX3_copyFrom : MethodName := ⟨RX3, "copyFrom", "(LAxisTable$Moment;)V"⟩
def RX4 : String := "AxisTable$Past"
def TX4 : u_T := fun k => match k with
  | 0 => ("AxisTable$Past", "moments", "[LAxisTable$Moment;", true)
  | 1 => ("AxisTable$Past", "next", "I", false)
  | _ => ("AxisTable$Past", "count", "I", false)
def tyX4 : Nat → FieldType := fun k => match k with
  | 0 => .array (.object "AxisTable$Moment")
  | 1 => .int
  | _ => .int
theorem nmX4 : ∀ a, a < 3 → ∀ b, b < 3 → a ≠ b → (TX4 a).2.1 ≠ (TX4 b).2.1 := by decide +kernel
theorem tyX4_ok : ∀ k, k < 3 → parseFieldDescriptor (TX4 k).2.2.1 = some (tyX4 k) := by decide +kernel
abbrev cX4_init : ByteArray := prog_6_method_1_code
def yX4_init : MethodName := ⟨RX4, "<init>", "()V"⟩
abbrev cX4_remember : ByteArray := prog_6_method_2_code
def yX4_remember : MethodName := ⟨RX4, "remember", "(LAxisTable$Moment;)V"⟩
abbrev cX4_recallInto : ByteArray := prog_6_method_3_code
def yX4_recallInto : MethodName := ⟨RX4, "recallInto", "(LAxisTable$Moment;)V"⟩
abbrev cX4_forgetAll : ByteArray := prog_6_method_4_code
def yX4_forgetAll : MethodName := ⟨RX4, "forgetAll", "()V"⟩
def RX5 : String := "AxisTable$Reader"
def TX5 : u_T := fun k => match k with
  | 0 => ("AxisTable$Reader", "starts", "[I", true)
  | 1 => ("AxisTable$Reader", "kinds", "[I", true)
  | 2 => ("AxisTable$Reader", "values", "[I", true)
  | 3 => ("AxisTable$Reader", "tokens", "I", false)
  | 4 => ("AxisTable$Reader", "token", "I", false)
  | _ => ("AxisTable$Reader", "clauses", "I", false)
def tyX5 : Nat → FieldType := fun k => match k with
  | 0 => .array .int
  | 1 => .array .int
  | 2 => .array .int
  | 3 => .int
  | 4 => .int
  | _ => .int
theorem nmX5 : ∀ a, a < 6 → ∀ b, b < 6 → a ≠ b → (TX5 a).2.1 ≠ (TX5 b).2.1 := by decide +kernel
theorem tyX5_ok : ∀ k, k < 6 → parseFieldDescriptor (TX5 k).2.2.1 = some (tyX5 k) := by decide +kernel
abbrev cX5_init : ByteArray := prog_7_method_1_code
def yX5_init : MethodName := ⟨RX5, "<init>", "()V"⟩
abbrev cX5_readInto : ByteArray := prog_7_method_2_code
def yX5_readInto : MethodName := ⟨RX5, "readInto", "(LAxisTable$Measured;LAxisTable$Letters;)I"⟩
abbrev cX5_partIntoTokens : ByteArray := prog_7_method_3_code
def yX5_partIntoTokens : MethodName := ⟨RX5, "partIntoTokens", "(LAxisTable$Letters;)V"⟩
abbrev cX5_addToken : ByteArray := prog_7_method_4_code
def yX5_addToken : MethodName := ⟨RX5, "addToken", "(III)V"⟩
abbrev cX5_goOn : ByteArray := prog_7_method_5_code
def yX5_goOn : MethodName := ⟨RX5, "goOn", "()V"⟩
abbrev cX5_isSign : ByteArray := prog_7_method_6_code
def yX5_isSign : MethodName := ⟨RX5, "isSign", "(I)Z"⟩
abbrev cX5_readClause : ByteArray := prog_7_method_7_code
def yX5_readClause : MethodName := ⟨RX5, "readClause", "(LAxisTable$Measured;)Z"⟩
abbrev cX5_readAxis : ByteArray := prog_7_method_8_code
def yX5_readAxis : MethodName := ⟨RX5, "readAxis", "(LAxisTable$Measured;)Z"⟩
abbrev cX5_readRow : ByteArray := prog_7_method_9_code
def yX5_readRow : MethodName := ⟨RX5, "readRow", "(LAxisTable$Measured;I)Z"⟩
abbrev cX5_readOne : ByteArray := prog_7_method_10_code
def yX5_readOne : MethodName := ⟨RX5, "readOne", "(LAxisTable$Measured;)Z"⟩
abbrev cX5_readErr : ByteArray := prog_7_method_11_code
def yX5_readErr : MethodName := ⟨RX5, "readErr", "(LAxisTable$Measured;II)Z"⟩
abbrev cX5_readNumber : ByteArray := prog_7_method_12_code
def yX5_readNumber : MethodName := ⟨RX5, "readNumber", "(II)I"⟩
def RX6 : String := "AxisTable"
def TX6 : u_T := fun k => match k with
  | 0 => ("AxisTable", "text", "LAxisTable$Letters;", true)
  | 1 => ("AxisTable", "reader", "LAxisTable$Reader;", true)
  | 2 => ("AxisTable", "now", "LAxisTable$Moment;", true)
  | 3 => ("AxisTable", "past", "LAxisTable$Past;", true)
  | 4 => ("AxisTable", "kept", "[LAxisTable$Moment;", true)
  | 5 => ("AxisTable", "isKept", "[Z", true)
  | 6 => ("AxisTable", "figures", "LAxisTable$Figures;", true)
  | 7 => ("AxisTable", "supposed", "LAxisTable$Measured;", true)
  | 8 => ("AxisTable", "supposedFigures", "LAxisTable$Figures;", true)
  | 9 => ("AxisTable", "sheetLetters", "LAxisTable$Letters;", true)
  | 10 => ("AxisTable", "labels", "[LAxisTable$Letters;", true)
  | _ => ("AxisTable", "isThere", "[Z", true)
def tyX6 : Nat → FieldType := fun k => match k with
  | 0 => .object "AxisTable$Letters"
  | 1 => .object "AxisTable$Reader"
  | 2 => .object "AxisTable$Moment"
  | 3 => .object "AxisTable$Past"
  | 4 => .array (.object "AxisTable$Moment")
  | 5 => .array .boolean
  | 6 => .object "AxisTable$Figures"
  | 7 => .object "AxisTable$Measured"
  | 8 => .object "AxisTable$Figures"
  | 9 => .object "AxisTable$Letters"
  | 10 => .array (.object "AxisTable$Letters")
  | _ => .array .boolean
theorem nmX6 : ∀ a, a < 12 → ∀ b, b < 12 → a ≠ b → (TX6 a).2.1 ≠ (TX6 b).2.1 := by decide +kernel
theorem tyX6_ok : ∀ k, k < 12 → parseFieldDescriptor (TX6 k).2.2.1 = some (tyX6 k) := by decide +kernel
abbrev cX6_init : ByteArray := prog_1_method_1_code
def yX6_init : MethodName := ⟨RX6, "<init>", "()V"⟩
abbrev cX6_write : ByteArray := prog_1_method_2_code
def yX6_write : MethodName := ⟨RX6, "write", "(I)I"⟩
abbrev cX6_erase : ByteArray := prog_1_method_3_code
def yX6_erase : MethodName := ⟨RX6, "erase", "()I"⟩
abbrev cX6_fault : ByteArray := prog_1_method_4_code
def yX6_fault : MethodName := ⟨RX6, "fault", "()I"⟩
abbrev cX6_axis : ByteArray := prog_1_method_5_code
def yX6_axis : MethodName := ⟨RX6, "axis", "()I"⟩
abbrev cX6_run : ByteArray := prog_1_method_6_code
def yX6_run : MethodName := ⟨RX6, "run", "(III)I"⟩
abbrev cX6_clear : ByteArray := prog_1_method_7_code
def yX6_clear : MethodName := ⟨RX6, "clear", "(II)I"⟩
abbrev cX6_undo : ByteArray := prog_1_method_8_code
def yX6_undo : MethodName := ⟨RX6, "undo", "()I"⟩
abbrev cX6_keep : ByteArray := prog_1_method_9_code
def yX6_keep : MethodName := ⟨RX6, "keep", "(I)I"⟩
abbrev cX6_back : ByteArray := prog_1_method_10_code
def yX6_back : MethodName := ⟨RX6, "back", "(I)I"⟩
abbrev cX6_runAt : ByteArray := prog_1_method_11_code
def yX6_runAt : MethodName := ⟨RX6, "runAt", "(III)I"⟩
abbrev cX6_point : ByteArray := prog_1_method_12_code
def yX6_point : MethodName := ⟨RX6, "point", "(III)I"⟩
abbrev cX6_table : ByteArray := prog_1_method_13_code
def yX6_table : MethodName := ⟨RX6, "table", "(II)I"⟩
abbrev cX6_play : ByteArray := prog_1_method_14_code
def yX6_play : MethodName := ⟨RX6, "play", "(I)I"⟩
abbrev cX6_worst : ByteArray := prog_1_method_15_code
def yX6_worst : MethodName := ⟨RX6, "worst", "()I"⟩
abbrev cX6_merged : ByteArray := prog_1_method_16_code
def yX6_merged : MethodName := ⟨RX6, "merged", "(III)I"⟩
abbrev cX6_move : ByteArray := prog_1_method_17_code
def yX6_move : MethodName := ⟨RX6, "move", "(I)I"⟩
abbrev cX6_countOf : ByteArray := prog_1_method_18_code
def yX6_countOf : MethodName := ⟨RX6, "countOf", "(I)I"⟩
abbrev cX6_placeOf : ByteArray := prog_1_method_19_code
def yX6_placeOf : MethodName := ⟨RX6, "placeOf", "(I)I"⟩
abbrev cX6_told : ByteArray := prog_1_method_20_code
def yX6_told : MethodName := ⟨RX6, "told", "(I)I"⟩
abbrev cX6_sheet : ByteArray := prog_1_method_21_code
def yX6_sheet : MethodName := ⟨RX6, "sheet", "(I)I"⟩
abbrev cX6_label : ByteArray := prog_1_method_22_code
def yX6_label : MethodName := ⟨RX6, "label", "(I)I"⟩
abbrev cX6_insert : ByteArray := prog_1_method_23_code
def yX6_insert : MethodName := ⟨RX6, "insert", "(III)I"⟩
abbrev cX6_cut : ByteArray := prog_1_method_24_code
def yX6_cut : MethodName := ⟨RX6, "cut", "(III)I"⟩
abbrev cX6_join : ByteArray := prog_1_method_25_code
def yX6_join : MethodName := ⟨RX6, "join", "(II)I"⟩
abbrev cX6_turn : ByteArray := prog_1_method_26_code
def yX6_turn : MethodName := ⟨RX6, "turn", "(I)I"⟩
abbrev cX6_letter : ByteArray := prog_1_method_27_code
def yX6_letter : MethodName := ⟨RX6, "letter", "(II)I"⟩
abbrev cX6_compare : ByteArray := prog_1_method_28_code
def yX6_compare : MethodName := ⟨RX6, "compare", "(II)I"⟩
abbrev cX6_times : ByteArray := prog_1_method_29_code
def yX6_times : MethodName := ⟨RX6, "times", "(I)I"⟩
abbrev cX6_word : ByteArray := prog_1_method_30_code
def yX6_word : MethodName := ⟨RX6, "word", "(I)I"⟩
abbrev cX6_value : ByteArray := prog_1_method_31_code
def yX6_value : MethodName := ⟨RX6, "value", "(I)I"⟩
abbrev cX6_drop : ByteArray := prog_1_method_32_code
def yX6_drop : MethodName := ⟨RX6, "drop", "(I)I"⟩
abbrev cX6_reckonAnew : ByteArray := prog_1_method_33_code
def yX6_reckonAnew : MethodName := ⟨RX6, "reckonAnew", "()V"⟩
abbrev cX6_refusalOfRun : ByteArray := prog_1_method_34_code
def yX6_refusalOfRun : MethodName := ⟨RX6, "refusalOfRun", "(III)I"⟩
abbrev cX6_refusalOfLabel : ByteArray := prog_1_method_35_code
def yX6_refusalOfLabel : MethodName := ⟨RX6, "refusalOfLabel", "(I)I"⟩
abbrev cX6_refusalOfTwo : ByteArray := prog_1_method_36_code
def yX6_refusalOfTwo : MethodName := ⟨RX6, "refusalOfTwo", "(II)I"⟩
abbrev cX6_lettersOfLabels : ByteArray := prog_1_method_37_code
def yX6_lettersOfLabels : MethodName := ⟨RX6, "lettersOfLabels", "()I"⟩
abbrev cX6_isLabel : ByteArray := prog_1_method_38_code
def yX6_isLabel : MethodName := ⟨RX6, "isLabel", "(I)Z"⟩
abbrev cX6_isWay : ByteArray := prog_1_method_39_code
def yX6_isWay : MethodName := ⟨RX6, "isWay", "(I)Z"⟩
abbrev cX6_isPart : ByteArray := prog_1_method_40_code
def yX6_isPart : MethodName := ⟨RX6, "isPart", "(I)Z"⟩
abbrev cX6_partOf : ByteArray := prog_1_method_41_code
def yX6_partOf : MethodName := ⟨RX6, "partOf", "(III)I"⟩
abbrev cX6_greatestDivisor : ByteArray := prog_1_method_42_code
def yX6_greatestDivisor : MethodName := ⟨RX6, "greatestDivisor", "(II)I"⟩
abbrev cX6_nearestLesser : ByteArray := prog_1_method_43_code
def yX6_nearestLesser : MethodName := ⟨RX6, "nearestLesser", "(II)I"⟩
abbrev cX6_isDigit : ByteArray := prog_1_method_44_code
def yX6_isDigit : MethodName := ⟨RX6, "isDigit", "(I)Z"⟩
abbrev cX6_isSmallLetter : ByteArray := prog_1_method_45_code
def yX6_isSmallLetter : MethodName := ⟨RX6, "isSmallLetter", "(I)Z"⟩
def RX7 : String := "AxisTableModel"
def TX7 : u_T := fun k => match k with
  | 0 => ("AxisTableModel", "points", "I", false)
  | 1 => ("AxisTableModel", "step", "I", false)
  | 2 => ("AxisTableModel", "w", "[I", true)
  | 3 => ("AxisTableModel", "undos", "I", false)
  | 4 => ("AxisTableModel", "isKept", "[Z", true)
  | 5 => ("AxisTableModel", "text", "[I", true)
  | 6 => ("AxisTableModel", "length", "I", false)
  | 7 => ("AxisTableModel", "first", "I", false)
  | 8 => ("AxisTableModel", "behind", "I", false)
  | 9 => ("AxisTableModel", "readPoints", "I", false)
  | 10 => ("AxisTableModel", "clauses", "I", false)
  | 11 => ("AxisTableModel", "doing", "Z", false)
  | 12 => ("AxisTableModel", "number", "I", false)
  | 13 => ("AxisTableModel", "words", "[I", true)
  | 14 => ("AxisTableModel", "counts", "[I", true)
  | 15 => ("AxisTableModel", "poolOf", "[I", true)
  | 16 => ("AxisTableModel", "poolMany", "[I", true)
  | 17 => ("AxisTableModel", "poolSum", "[I", true)
  | 18 => ("AxisTableModel", "playCounts", "I", false)
  | 19 => ("AxisTableModel", "written", "[I", true)
  | 20 => ("AxisTableModel", "writtenMany", "I", false)
  | 21 => ("AxisTableModel", "sizes", "[I", true)
  | _ => ("AxisTableModel", "letters", "[I", true)
def tyX7 : Nat → FieldType := fun k => match k with
  | 0 => .int
  | 1 => .int
  | 2 => .array .int
  | 3 => .int
  | 4 => .array .boolean
  | 5 => .array .int
  | 6 => .int
  | 7 => .int
  | 8 => .int
  | 9 => .int
  | 10 => .int
  | 11 => .boolean
  | 12 => .int
  | 13 => .array .int
  | 14 => .array .int
  | 15 => .array .int
  | 16 => .array .int
  | 17 => .array .int
  | 18 => .int
  | 19 => .array .int
  | 20 => .int
  | 21 => .array .int
  | _ => .array .int
theorem nmX7 : ∀ a, a < 23 → ∀ b, b < 23 → a ≠ b → (TX7 a).2.1 ≠ (TX7 b).2.1 := by decide +kernel
theorem tyX7_ok : ∀ k, k < 23 → parseFieldDescriptor (TX7 k).2.2.1 = some (tyX7 k) := by decide +kernel
abbrev cX7_init : ByteArray := prog_9_method_1_code
def yX7_init : MethodName := ⟨RX7, "<init>", "()V"⟩
abbrev cX7_in : ByteArray := prog_9_method_3_code
def yX7_in : MethodName := ⟨RX7, "in", "(JJJ)Z"⟩
abbrev cX7_copy : ByteArray := prog_9_method_4_code
def yX7_copy : MethodName := ⟨RX7, "copy", "(II)V"⟩
abbrev cX7_rests : ByteArray := prog_9_method_5_code
def yX7_rests : MethodName := ⟨RX7, "rests", "()V"⟩
abbrev cX7_isPoint : ByteArray := prog_9_method_6_code
def yX7_isPoint : MethodName := ⟨RX7, "isPoint", "(I)Z"⟩
abbrev cX7_isWay : ByteArray := prog_9_method_7_code
def yX7_isWay : MethodName := ⟨RX7, "isWay", "(I)Z"⟩
abbrev cX7_isErr : ByteArray := prog_9_method_8_code
def yX7_isErr : MethodName := ⟨RX7, "isErr", "(I)Z"⟩
abbrev cX7_adds : ByteArray := prog_9_method_9_code
def yX7_adds : MethodName := ⟨RX7, "adds", "(IIII)V"⟩
abbrev cX7_noRuns : ByteArray := prog_9_method_10_code
def yX7_noRuns : MethodName := ⟨RX7, "noRuns", "()V"⟩
abbrev cX7_write : ByteArray := prog_9_method_11_code
def yX7_write : MethodName := ⟨RX7, "write", "(I)I"⟩
abbrev cX7_erase : ByteArray := prog_9_method_12_code
def yX7_erase : MethodName := ⟨RX7, "erase", "()I"⟩
abbrev cX7_isSmall : ByteArray := prog_9_method_13_code
def yX7_isSmall : MethodName := ⟨RX7, "isSmall", "(I)Z"⟩
abbrev cX7_isDigit : ByteArray := prog_9_method_14_code
def yX7_isDigit : MethodName := ⟨RX7, "isDigit", "(I)Z"⟩
abbrev cX7_nextToken : ByteArray := prog_9_method_15_code
def yX7_nextToken : MethodName := ⟨RX7, "nextToken", "()V"⟩
abbrev cX7_wordHere : ByteArray := prog_9_method_16_code
def yX7_wordHere : MethodName := ⟨RX7, "wordHere", "()I"⟩
abbrev cX7_takesNumber : ByteArray := prog_9_method_17_code
def yX7_takesNumber : MethodName := ⟨RX7, "takesNumber", "(II)Z"⟩
abbrev cX7_takesErr : ByteArray := prog_9_method_18_code
def yX7_takesErr : MethodName := ⟨RX7, "takesErr", "()Z"⟩
abbrev cX7_takesAxis : ByteArray := prog_9_method_19_code
def yX7_takesAxis : MethodName := ⟨RX7, "takesAxis", "()Z"⟩
abbrev cX7_takesRuns : ByteArray := prog_9_method_20_code
def yX7_takesRuns : MethodName := ⟨RX7, "takesRuns", "(I)Z"⟩
abbrev cX7_takesAt : ByteArray := prog_9_method_21_code
def yX7_takesAt : MethodName := ⟨RX7, "takesAt", "()Z"⟩
abbrev cX7_takesClause : ByteArray := prog_9_method_22_code
def yX7_takesClause : MethodName := ⟨RX7, "takesClause", "()Z"⟩
abbrev cX7_reads : ByteArray := prog_9_method_23_code
def yX7_reads : MethodName := ⟨RX7, "reads", "(Z)Z"⟩
abbrev cX7_fault : ByteArray := prog_9_method_24_code
def yX7_fault : MethodName := ⟨RX7, "fault", "()I"⟩
abbrev cX7_axis : ByteArray := prog_9_method_25_code
def yX7_axis : MethodName := ⟨RX7, "axis", "()I"⟩
abbrev cX7_minds : ByteArray := prog_9_method_26_code
def yX7_minds : MethodName := ⟨RX7, "minds", "()V"⟩
abbrev cX7_run : ByteArray := prog_9_method_27_code
def yX7_run : MethodName := ⟨RX7, "run", "(III)I"⟩
abbrev cX7_clear : ByteArray := prog_9_method_28_code
def yX7_clear : MethodName := ⟨RX7, "clear", "(II)I"⟩
abbrev cX7_undo : ByteArray := prog_9_method_29_code
def yX7_undo : MethodName := ⟨RX7, "undo", "()I"⟩
abbrev cX7_keep : ByteArray := prog_9_method_30_code
def yX7_keep : MethodName := ⟨RX7, "keep", "(I)I"⟩
abbrev cX7_back : ByteArray := prog_9_method_31_code
def yX7_back : MethodName := ⟨RX7, "back", "(I)I"⟩
abbrev cX7_runAt : ByteArray := prog_9_method_32_code
def yX7_runAt : MethodName := ⟨RX7, "runAt", "(III)I"⟩
abbrev cX7_mean : ByteArray := prog_9_method_33_code
def yX7_mean : MethodName := ⟨RX7, "mean", "(III)I"⟩
abbrev cX7_wanted : ByteArray := prog_9_method_34_code
def yX7_wanted : MethodName := ⟨RX7, "wanted", "(II)I"⟩
abbrev cX7_sixtyPlays : ByteArray := prog_9_method_35_code
def yX7_sixtyPlays : MethodName := ⟨RX7, "sixtyPlays", "(I)I"⟩
abbrev cX7_nearest : ByteArray := prog_9_method_36_code
def yX7_nearest : MethodName := ⟨RX7, "nearest", "(II)I"⟩
abbrev cX7_layTable : ByteArray := prog_9_method_37_code
def yX7_layTable : MethodName := ⟨RX7, "layTable", "(I)V"⟩
abbrev cX7_firstOf : ByteArray := prog_9_method_38_code
def yX7_firstOf : MethodName := ⟨RX7, "firstOf", "(I)I"⟩
abbrev cX7_missed : ByteArray := prog_9_method_39_code
def yX7_missed : MethodName := ⟨RX7, "missed", "(II)I"⟩
abbrev cX7_part : ByteArray := prog_9_method_40_code
def yX7_part : MethodName := ⟨RX7, "part", "(III)I"⟩
abbrev cX7_point : ByteArray := prog_9_method_41_code
def yX7_point : MethodName := ⟨RX7, "point", "(III)I"⟩
abbrev cX7_table : ByteArray := prog_9_method_42_code
def yX7_table : MethodName := ⟨RX7, "table", "(II)I"⟩
abbrev cX7_play : ByteArray := prog_9_method_43_code
def yX7_play : MethodName := ⟨RX7, "play", "(I)I"⟩
abbrev cX7_worst : ByteArray := prog_9_method_44_code
def yX7_worst : MethodName := ⟨RX7, "worst", "()I"⟩
abbrev cX7_merged : ByteArray := prog_9_method_45_code
def yX7_merged : MethodName := ⟨RX7, "merged", "(III)I"⟩
abbrev cX7_last : ByteArray := prog_9_method_46_code
def yX7_last : MethodName := ⟨RX7, "last", "()I"⟩
abbrev cX7_countAt : ByteArray := prog_9_method_47_code
def yX7_countAt : MethodName := ⟨RX7, "countAt", "(I)I"⟩
abbrev cX7_move : ByteArray := prog_9_method_48_code
def yX7_move : MethodName := ⟨RX7, "move", "(I)I"⟩
abbrev cX7_countOf : ByteArray := prog_9_method_49_code
def yX7_countOf : MethodName := ⟨RX7, "countOf", "(I)I"⟩
abbrev cX7_placeOf : ByteArray := prog_9_method_50_code
def yX7_placeOf : MethodName := ⟨RX7, "placeOf", "(I)I"⟩
abbrev cX7_puts : ByteArray := prog_9_method_51_code
def yX7_puts : MethodName := ⟨RX7, "puts", "(I)V"⟩
abbrev cX7_putsNumber : ByteArray := prog_9_method_52_code
def yX7_putsNumber : MethodName := ⟨RX7, "putsNumber", "(I)V"⟩
abbrev cX7_laySheet : ByteArray := prog_9_method_53_code
def yX7_laySheet : MethodName := ⟨RX7, "laySheet", "()V"⟩
abbrev cX7_sheetLong : ByteArray := prog_9_method_54_code
def yX7_sheetLong : MethodName := ⟨RX7, "sheetLong", "()I"⟩
abbrev cX7_runs : ByteArray := prog_9_method_55_code
def yX7_runs : MethodName := ⟨RX7, "runs", "()I"⟩
abbrev cX7_playNow : ByteArray := prog_9_method_56_code
def yX7_playNow : MethodName := ⟨RX7, "playNow", "()I"⟩
abbrev cX7_told : ByteArray := prog_9_method_57_code
def yX7_told : MethodName := ⟨RX7, "told", "(I)I"⟩
abbrev cX7_sheet : ByteArray := prog_9_method_58_code
def yX7_sheet : MethodName := ⟨RX7, "sheet", "(I)I"⟩
abbrev cX7_isLabel : ByteArray := prog_9_method_59_code
def yX7_isLabel : MethodName := ⟨RX7, "isLabel", "(I)Z"⟩
abbrev cX7_lettersOfAll : ByteArray := prog_9_method_60_code
def yX7_lettersOfAll : MethodName := ⟨RX7, "lettersOfAll", "()I"⟩
abbrev cX7_label : ByteArray := prog_9_method_61_code
def yX7_label : MethodName := ⟨RX7, "label", "(I)I"⟩
abbrev cX7_insert : ByteArray := prog_9_method_62_code
def yX7_insert : MethodName := ⟨RX7, "insert", "(III)I"⟩
abbrev cX7_cut : ByteArray := prog_9_method_63_code
def yX7_cut : MethodName := ⟨RX7, "cut", "(III)I"⟩
abbrev cX7_join : ByteArray := prog_9_method_64_code
def yX7_join : MethodName := ⟨RX7, "join", "(II)I"⟩
abbrev cX7_turn : ByteArray := prog_9_method_65_code
def yX7_turn : MethodName := ⟨RX7, "turn", "(I)I"⟩
abbrev cX7_letter : ByteArray := prog_9_method_66_code
def yX7_letter : MethodName := ⟨RX7, "letter", "(II)I"⟩
abbrev cX7_compare : ByteArray := prog_9_method_67_code
def yX7_compare : MethodName := ⟨RX7, "compare", "(II)I"⟩
abbrev cX7_times : ByteArray := prog_9_method_68_code
def yX7_times : MethodName := ⟨RX7, "times", "(I)I"⟩
abbrev cX7_word : ByteArray := prog_9_method_69_code
def yX7_word : MethodName := ⟨RX7, "word", "(I)I"⟩
abbrev cX7_value : ByteArray := prog_9_method_70_code
def yX7_value : MethodName := ⟨RX7, "value", "(I)I"⟩
abbrev cX7_drop : ByteArray := prog_9_method_71_code
def yX7_drop : MethodName := ⟨RX7, "drop", "(I)I"⟩
def RJ6 : String := "java/lang/Integer"
abbrev cJ6_compare_7cf53 : ByteArray := prog_10_method_40_code
def yJ6_compare_7cf53 : MethodName := ⟨RJ6, "compare", "(II)I"⟩
def RJ9 : String := "java/lang/Math"
abbrev cJ9_floorDiv_7cf53 : ByteArray := prog_11_method_47_code
def yJ9_floorDiv_7cf53 : MethodName := ⟨RJ9, "floorDiv", "(II)I"⟩
abbrev cJ9_abs_0f7a4 : ByteArray := prog_11_method_59_code
def yJ9_abs_0f7a4 : MethodName := ⟨RJ9, "abs", "(I)I"⟩
abbrev cJ9_max_7cf53 : ByteArray := prog_11_method_65_code
def yJ9_max_7cf53 : MethodName := ⟨RJ9, "max", "(II)I"⟩
abbrev cJ9_min_7cf53 : ByteArray := prog_11_method_69_code
def yJ9_min_7cf53 : MethodName := ⟨RJ9, "min", "(II)I"⟩
def RJ0 : String := "java/lang/String"
abbrev cJ0_length_8abf5 : ByteArray := prog_12_method_54_code
def yJ0_length_8abf5 : MethodName := ⟨RJ0, "length", "()I"⟩
abbrev cJ0_charAt_5068e : ByteArray := prog_12_method_56_code
def yJ0_charAt_5068e : MethodName := ⟨RJ0, "charAt", "(I)C"⟩
abbrev cJ0_coder_7d493 : ByteArray := prog_12_method_152_code
def yJ0_coder_7d493 : MethodName := ⟨RJ0, "coder", "()B"⟩
abbrev cJ0_isLatin1_aae02 : ByteArray := prog_12_method_154_code
def yJ0_isLatin1_aae02 : MethodName := ⟨RJ0, "isLatin1", "()Z"⟩
abbrev cJ0_checkIndex_df160 : ByteArray := prog_12_method_155_code
def yJ0_checkIndex_df160 : MethodName := ⟨RJ0, "checkIndex", "(II)V"⟩
def RJ1 : String := "java/lang/StringLatin1"
abbrev cJ1_charAt_3b067 : ByteArray := prog_13_method_2_code
def yJ1_charAt_3b067 : MethodName := ⟨RJ1, "charAt", "([BI)C"⟩
def RJ2 : String := "java/lang/StringUTF16"
abbrev cJ2_getChar_3b067 : ByteArray := prog_14_method_5_code
def yJ2_getChar_3b067 : MethodName := ⟨RJ2, "getChar", "([BI)C"⟩
abbrev cJ2_length_9d52b : ByteArray := prog_14_method_6_code
def yJ2_length_9d52b : MethodName := ⟨RJ2, "length", "([B)I"⟩
abbrev cJ2_charAt_3b067 : ByteArray := prog_14_method_83_code
def yJ2_charAt_3b067 : MethodName := ⟨RJ2, "charAt", "([BI)C"⟩
abbrev cJ2_checkIndex_2214a : ByteArray := prog_14_method_91_code
def yJ2_checkIndex_2214a : MethodName := ⟨RJ2, "checkIndex", "(I[B)V"⟩
def RJ10 : String := "java/lang/System"
def RJ3 : String := "jdk/internal/util/Preconditions"
abbrev cJ3_checkIndex_8e157 : ByteArray := prog_16_method_11_code
def yJ3_checkIndex_8e157 : MethodName := ⟨RJ3, "checkIndex", "(IILjava/util/function/BiFunction;)I"⟩
def RL : String := "AxisTableLaw"
abbrev cL_law : ByteArray := code
def yL_law : MethodName := ⟨RL, "law", "([I)Z"⟩
abbrev vwCl : List vw_C := [(RX0, TX0, 12), (RX1, TX1, 2), (RX2, TX2, 4), (RX3, TX3, 6), (RX4, TX4, 3), (RX5, TX5, 6), (RX6, TX6, 12), (RX7, TX7, 23)]
def dchk (cc : ByteArray) (tab : List (Nat × Instr × Nat)) : Bool := tab.all fun q => decide (decode cc q.1 = .ok (q.2.1, q.2.2))
theorem dq {cc : ByteArray} {tab : List (Nat × Instr × Nat)} (h : dchk cc tab = true) (k : Nat) {pc len : Nat} {i : Instr} (hk : tab[k]? = some (pc, i, len)) : decode cc pc = .ok (i, len) := by
  have h1 := List.all_eq_true.mp h _ (List.mem_of_getElem? hk)
  exact of_decide_eq_true h1
end
section
def tX0_init : List (Nat × Instr × Nat) := [(0, .aload_n 0, 1), (1, .invokespecial 3, 3), (4, .aload_n 0, 1), (5, .iconst 2, 1), (6, .putfield 9, 3), (9, .aload_n 0, 1), (10, .bipush 10, 2), (12, .putfield 15, 3), (15, .aload_n 0, 1), (16, .bipush 16, 2), (18, .newarray .int, 2), (20, .putfield 18, 3), (23, .aload_n 0, 1), (24, .bipush 8, 2), (26, .newarray .int, 2), (28, .putfield 22, 3), (31, .aload_n 0, 1), (32, .iconst 0, 1), (33, .putfield 25, 3), (36, .aload_n 0, 1), (37, .bipush 8, 2), (39, .newarray .int, 2), (41, .putfield 28, 3), (44, .aload_n 0, 1), (45, .bipush 8, 2), (47, .newarray .int, 2), (49, .putfield 31, 3), (52, .aload_n 0, 1), (53, .bipush 8, 2), (55, .newarray .int, 2), (57, .putfield 34, 3), (60, .aload_n 0, 1), (61, .bipush 8, 2), (63, .newarray .int, 2), (65, .putfield 37, 3), (68, .aload_n 0, 1), (69, .bipush 8, 2), (71, .newarray .int, 2), (73, .putfield 40, 3), (76, .aload_n 0, 1), (77, .iconst 0, 1), (78, .putfield 43, 3), (81, .aload_n 0, 1), (82, .iconst 0, 1), (83, .putfield 46, 3), (86, .return_, 1)]
theorem dtX0_init : dchk cX0_init tX0_init = true := by decide +kernel
def tX0_reckon : List (Nat × Instr × Nat) := [(0, .aload_n 0, 1), (1, .iconst 2, 1), (2, .aload_n 1, 1), (3, .getfield 49, 3), (6, .bipush 8, 2), (8, .invokestatic 52, 3), (11, .invokestatic 58, 3), (14, .putfield 9, 3), (17, .aload_n 0, 1), (18, .bipush 10, 2), (20, .aload_n 1, 1), (21, .getfield 61, 3), (24, .invokestatic 58, 3), (27, .putfield 15, 3), (30, .aload_n 0, 1), (31, .aload_n 1, 1), (32, .invokevirtual 62, 3), (35, .aload_n 0, 1), (36, .invokevirtual 66, 3), (39, .aload_n 0, 1), (40, .invokevirtual 69, 3), (43, .aload_n 0, 1), (44, .invokevirtual 72, 3), (47, .return_, 1)]
theorem dtX0_reckon : dchk cX0_reckon tX0_reckon = true := by decide +kernel
def tX0_takeMeans : List (Nat × Instr × Nat) := [(0, .iconst 0, 1), (1, .istore_n 2, 1), (2, .iload_n 2, 1), (3, .aload_n 0, 1), (4, .getfield 9, 3), (7, .if_icmp .ge 62, 3), (10, .aload_n 0, 1), (11, .getfield 18, 3), (14, .iload_n 2, 1), (15, .iconst 2, 1), (16, .imul, 1), (17, .iconst 0, 1), (18, .iadd, 1), (19, .aload_n 1, 1), (20, .iload_n 2, 1), (21, .iconst 0, 1), (22, .invokevirtual 75, 3), (25, .iastore, 1), (26, .aload_n 0, 1), (27, .getfield 18, 3), (30, .iload_n 2, 1), (31, .iconst 2, 1), (32, .imul, 1), (33, .iconst 1, 1), (34, .iadd, 1), (35, .aload_n 1, 1), (36, .iload_n 2, 1), (37, .iconst 1, 1), (38, .invokevirtual 75, 3), (41, .iastore, 1), (42, .aload_n 0, 1), (43, .getfield 22, 3), (46, .iload_n 2, 1), (47, .bipush 120, 2), (49, .iload_n 2, 1), (50, .imul, 1), (51, .aload_n 0, 1), (52, .getfield 15, 3), (55, .imul, 1), (56, .aload_n 0, 1), (57, .iload_n 2, 1), (58, .invokevirtual 78, 3), (61, .isub, 1), (62, .iastore, 1), (63, .iinc 2 1, 3), (66, .goto (-64), 3), (69, .return_, 1)]
theorem dtX0_takeMeans : dchk cX0_takeMeans tX0_takeMeans = true := by decide +kernel
def tX0_takePlay : List (Nat × Instr × Nat) := [(0, .aload_n 0, 1), (1, .iconst 0, 1), (2, .putfield 43, 3), (5, .iconst 0, 1), (6, .istore_n 1, 1), (7, .iload_n 1, 1), (8, .aload_n 0, 1), (9, .getfield 9, 3), (12, .if_icmp .ge 31, 3), (15, .aload_n 0, 1), (16, .dup, 1), (17, .getfield 43, 3), (20, .aload_n 0, 1), (21, .iload_n 1, 1), (22, .iconst 0, 1), (23, .invokevirtual 82, 3), (26, .aload_n 0, 1), (27, .iload_n 1, 1), (28, .iconst 1, 1), (29, .invokevirtual 82, 3), (32, .isub, 1), (33, .iadd, 1), (34, .putfield 43, 3), (37, .iinc 1 1, 3), (40, .goto (-33), 3), (43, .aload_n 0, 1), (44, .iconst 0, 1), (45, .aload_n 0, 1), (46, .getfield 43, 3), (49, .bipush 60, 2), (51, .aload_n 0, 1), (52, .getfield 9, 3), (55, .imul, 1), (56, .invokestatic 85, 3), (59, .invokestatic 58, 3), (62, .putfield 46, 3), (65, .return_, 1)]
theorem dtX0_takePlay : dchk cX0_takePlay tX0_takePlay = true := by decide +kernel
def tX0_poolWanted_0 : List (Nat × Instr × Nat) := [(0, .aload_n 0, 1), (1, .iconst 0, 1), (2, .putfield 25, 3), (5, .iconst 0, 1), (6, .istore_n 1, 1), (7, .iload_n 1, 1), (8, .aload_n 0, 1), (9, .getfield 9, 3), (12, .if_icmp .ge 128, 3), (15, .aload_n 0, 1), (16, .getfield 28, 3), (19, .aload_n 0, 1), (20, .getfield 25, 3), (23, .iload_n 1, 1), (24, .iastore, 1), (25, .aload_n 0, 1), (26, .getfield 31, 3), (29, .aload_n 0, 1), (30, .getfield 25, 3), (33, .iconst 1, 1), (34, .iastore, 1), (35, .aload_n 0, 1), (36, .getfield 34, 3), (39, .aload_n 0, 1), (40, .getfield 25, 3), (43, .aload_n 0, 1), (44, .getfield 22, 3), (47, .iload_n 1, 1), (48, .iaload, 1), (49, .iastore, 1), (50, .aload_n 0, 1), (51, .dup, 1), (52, .getfield 25, 3), (55, .iconst 1, 1), (56, .iadd, 1), (57, .putfield 25, 3), (60, .aload_n 0, 1), (61, .getfield 25, 3), (64, .iconst 1, 1), (65, .if_icmp .le 69, 3), (68, .aload_n 0, 1), (69, .invokevirtual 88, 3), (72, .ifCond .eq 62, 3), (75, .aload_n 0, 1), (76, .dup, 1), (77, .getfield 25, 3), (80, .iconst 1, 1), (81, .isub, 1), (82, .putfield 25, 3), (85, .aload_n 0, 1), (86, .getfield 31, 3), (89, .aload_n 0, 1), (90, .getfield 25, 3), (93, .iconst 1, 1), (94, .isub, 1), (95, .dup2, 1), (96, .iaload, 1), (97, .aload_n 0, 1), (98, .getfield 31, 3), (101, .aload_n 0, 1), (102, .getfield 25, 3), (105, .iaload, 1), (106, .iadd, 1), (107, .iastore, 1)]
theorem dtX0_poolWanted_0 : dchk cX0_poolWanted tX0_poolWanted_0 = true := by decide +kernel
def tX0_poolWanted_1 : List (Nat × Instr × Nat) := [(108, .aload_n 0, 1), (109, .getfield 34, 3), (112, .aload_n 0, 1), (113, .getfield 25, 3), (116, .iconst 1, 1), (117, .isub, 1), (118, .dup2, 1), (119, .iaload, 1), (120, .aload_n 0, 1), (121, .getfield 34, 3), (124, .aload_n 0, 1), (125, .getfield 25, 3), (128, .iaload, 1), (129, .iadd, 1), (130, .iastore, 1), (131, .goto (-71), 3), (134, .iinc 1 1, 3), (137, .goto (-130), 3), (140, .iconst 0, 1), (141, .istore_n 1, 1), (142, .iload_n 1, 1), (143, .aload_n 0, 1), (144, .getfield 25, 3), (147, .if_icmp .ge 41, 3), (150, .iconst 0, 1), (151, .istore_n 2, 1), (152, .iload_n 2, 1), (153, .aload_n 0, 1), (154, .getfield 31, 3), (157, .iload_n 1, 1), (158, .iaload, 1), (159, .if_icmp .ge 23, 3), (162, .aload_n 0, 1), (163, .getfield 37, 3), (166, .aload_n 0, 1), (167, .getfield 28, 3), (170, .iload_n 1, 1), (171, .iaload, 1), (172, .iload_n 2, 1), (173, .iadd, 1), (174, .iload_n 1, 1), (175, .iastore, 1), (176, .iinc 2 1, 3), (179, .goto (-27), 3), (182, .iinc 1 1, 3), (185, .goto (-43), 3), (188, .return_, 1)]
theorem dtX0_poolWanted_1 : dchk cX0_poolWanted tX0_poolWanted_1 = true := by decide +kernel
def tX0_lastIsNotMore : List (Nat × Instr × Nat) := [(0, .aload_n 0, 1), (1, .getfield 25, 3), (4, .iconst 1, 1), (5, .isub, 1), (6, .istore_n 1, 1), (7, .aload_n 0, 1), (8, .getfield 34, 3), (11, .iload_n 1, 1), (12, .iaload, 1), (13, .aload_n 0, 1), (14, .getfield 31, 3), (17, .iload_n 1, 1), (18, .iconst 1, 1), (19, .isub, 1), (20, .iaload, 1), (21, .imul, 1), (22, .aload_n 0, 1), (23, .getfield 34, 3), (26, .iload_n 1, 1), (27, .iconst 1, 1), (28, .isub, 1), (29, .iaload, 1), (30, .aload_n 0, 1), (31, .getfield 31, 3), (34, .iload_n 1, 1), (35, .iaload, 1), (36, .imul, 1), (37, .if_icmp .gt 7, 3), (40, .iconst 1, 1), (41, .goto 4, 3), (44, .iconst 0, 1), (45, .ireturn, 1)]
theorem dtX0_lastIsNotMore : dchk cX0_lastIsNotMore tX0_lastIsNotMore = true := by decide +kernel
def tX0_makeCounts : List (Nat × Instr × Nat) := [(0, .iconst 0, 1), (1, .istore_n 1, 1), (2, .iload_n 1, 1), (3, .aload_n 0, 1), (4, .getfield 9, 3), (7, .if_icmp .ge 54, 3), (10, .aload_n 0, 1), (11, .iload_n 1, 1), (12, .invokevirtual 92, 3), (15, .bipush 120, 2), (17, .aload_n 0, 1), (18, .iload_n 1, 1), (19, .invokevirtual 95, 3), (22, .imul, 1), (23, .invokestatic 85, 3), (26, .istore_n 2, 1), (27, .aload_n 0, 1), (28, .getfield 40, 3), (31, .iload_n 1, 1), (32, .iload_n 1, 1), (33, .ifCond .ne 7, 3), (36, .iload_n 2, 1), (37, .goto 17, 3), (40, .iload_n 2, 1), (41, .aload_n 0, 1), (42, .getfield 40, 3), (45, .iload_n 1, 1), (46, .iconst 1, 1), (47, .isub, 1), (48, .iaload, 1), (49, .iconst 1, 1), (50, .iadd, 1), (51, .invokestatic 58, 3), (54, .iastore, 1), (55, .iinc 1 1, 3), (58, .goto (-56), 3), (61, .return_, 1)]
theorem dtX0_makeCounts : dchk cX0_makeCounts tX0_makeCounts = true := by decide +kernel
def tX0_hasPoint : List (Nat × Instr × Nat) := [(0, .iload_n 1, 1), (1, .ifCond .lt 15, 3), (4, .iload_n 1, 1), (5, .aload_n 0, 1), (6, .getfield 9, 3), (9, .if_icmp .ge 7, 3), (12, .iconst 1, 1), (13, .goto 4, 3), (16, .iconst 0, 1), (17, .ireturn, 1)]
theorem dtX0_hasPoint : dchk cX0_hasPoint tX0_hasPoint = true := by decide +kernel
def tX0_hasPlace : List (Nat × Instr × Nat) := [(0, .iload_n 1, 1), (1, .ifCond .lt 22, 3), (4, .iload_n 1, 1), (5, .aload_n 0, 1), (6, .getfield 9, 3), (9, .iconst 1, 1), (10, .isub, 1), (11, .aload_n 0, 1), (12, .getfield 15, 3), (15, .imul, 1), (16, .if_icmp .gt 7, 3), (19, .iconst 1, 1), (20, .goto 4, 3), (23, .iconst 0, 1), (24, .ireturn, 1)]
theorem dtX0_hasPlace : dchk cX0_hasPlace tX0_hasPlace = true := by decide +kernel
def tX0_meanAt : List (Nat × Instr × Nat) := [(0, .aload_n 0, 1), (1, .iload_n 1, 1), (2, .invokevirtual 98, 3), (5, .ifCond .eq 23, 3), (8, .iload_n 2, 1), (9, .invokestatic 102, 3), (12, .ifCond .eq 16, 3), (15, .aload_n 0, 1), (16, .getfield 18, 3), (19, .iload_n 1, 1), (20, .iconst 2, 1), (21, .imul, 1), (22, .iload_n 2, 1), (23, .iadd, 1), (24, .iaload, 1), (25, .goto 4, 3), (28, .iconst 0, 1), (29, .ireturn, 1)]
theorem dtX0_meanAt : dchk cX0_meanAt tX0_meanAt = true := by decide +kernel
def tX0_slopeAt : List (Nat × Instr × Nat) := [(0, .aload_n 0, 1), (1, .iload_n 1, 1), (2, .iconst 0, 1), (3, .invokevirtual 82, 3), (6, .aload_n 0, 1), (7, .iload_n 1, 1), (8, .iconst 1, 1), (9, .invokevirtual 82, 3), (12, .iadd, 1), (13, .ireturn, 1)]
theorem dtX0_slopeAt : dchk cX0_slopeAt tX0_slopeAt = true := by decide +kernel
def tX0_wantedAt : List (Nat × Instr × Nat) := [(0, .aload_n 0, 1), (1, .iload_n 1, 1), (2, .invokevirtual 98, 3), (5, .ifCond .eq 12, 3), (8, .aload_n 0, 1), (9, .getfield 22, 3), (12, .iload_n 1, 1), (13, .iaload, 1), (14, .goto 4, 3), (17, .iconst 0, 1), (18, .ireturn, 1)]
theorem dtX0_wantedAt : dchk cX0_wantedAt tX0_wantedAt = true := by decide +kernel
def tX0_poolFirstAt : List (Nat × Instr × Nat) := [(0, .aload_n 0, 1), (1, .iload_n 1, 1), (2, .invokevirtual 98, 3), (5, .ifCond .eq 17, 3), (8, .aload_n 0, 1), (9, .getfield 28, 3), (12, .aload_n 0, 1), (13, .getfield 37, 3), (16, .iload_n 1, 1), (17, .iaload, 1), (18, .iaload, 1), (19, .goto 4, 3), (22, .iconst 0, 1), (23, .ireturn, 1)]
theorem dtX0_poolFirstAt : dchk cX0_poolFirstAt tX0_poolFirstAt = true := by decide +kernel
def tX0_poolSizeAt : List (Nat × Instr × Nat) := [(0, .aload_n 0, 1), (1, .iload_n 1, 1), (2, .invokevirtual 98, 3), (5, .ifCond .eq 17, 3), (8, .aload_n 0, 1), (9, .getfield 31, 3), (12, .aload_n 0, 1), (13, .getfield 37, 3), (16, .iload_n 1, 1), (17, .iaload, 1), (18, .iaload, 1), (19, .goto 4, 3), (22, .iconst 1, 1), (23, .ireturn, 1)]
theorem dtX0_poolSizeAt : dchk cX0_poolSizeAt tX0_poolSizeAt = true := by decide +kernel
def tX0_poolTotalAt : List (Nat × Instr × Nat) := [(0, .aload_n 0, 1), (1, .iload_n 1, 1), (2, .invokevirtual 98, 3), (5, .ifCond .eq 17, 3), (8, .aload_n 0, 1), (9, .getfield 34, 3), (12, .aload_n 0, 1), (13, .getfield 37, 3), (16, .iload_n 1, 1), (17, .iaload, 1), (18, .iaload, 1), (19, .goto 4, 3), (22, .iconst 0, 1), (23, .ireturn, 1)]
theorem dtX0_poolTotalAt : dchk cX0_poolTotalAt tX0_poolTotalAt = true := by decide +kernel
def tX0_tableAt : List (Nat × Instr × Nat) := [(0, .aload_n 0, 1), (1, .iload_n 1, 1), (2, .invokevirtual 98, 3), (5, .ifCond .eq 12, 3), (8, .aload_n 0, 1), (9, .getfield 40, 3), (12, .iload_n 1, 1), (13, .iaload, 1), (14, .goto 4, 3), (17, .iconst 0, 1), (18, .ireturn, 1)]
theorem dtX0_tableAt : dchk cX0_tableAt tX0_tableAt = true := by decide +kernel
def tX0_offsetAt : List (Nat × Instr × Nat) := [(0, .aload_n 0, 1), (1, .iload_n 1, 1), (2, .invokevirtual 105, 3), (5, .iload_n 1, 1), (6, .aload_n 0, 1), (7, .getfield 15, 3), (10, .imul, 1), (11, .isub, 1), (12, .ireturn, 1)]
theorem dtX0_offsetAt : dchk cX0_offsetAt tX0_offsetAt = true := by decide +kernel
def tX0_missAt : List (Nat × Instr × Nat) := [(0, .aload_n 0, 1), (1, .iload_n 1, 1), (2, .invokevirtual 108, 3), (5, .iload_n 2, 1), (6, .iconst 1, 1), (7, .if_icmp .ne 10, 3), (10, .aload_n 0, 1), (11, .getfield 46, 3), (14, .goto 4, 3), (17, .iconst 0, 1), (18, .iadd, 1), (19, .istore_n 3, 1), (20, .aload_n 0, 1), (21, .iload_n 1, 1), (22, .iload_n 2, 1), (23, .invokevirtual 82, 3), (26, .bipush 60, 2), (28, .iload_n 3, 1), (29, .imul, 1), (30, .iadd, 1), (31, .ireturn, 1)]
theorem dtX0_missAt : dchk cX0_missAt tX0_missAt = true := by decide +kernel
def tX0_worstSlot : List (Nat × Instr × Nat) := [(0, .iconst 0, 1), (1, .istore_n 1, 1), (2, .iconst (-1), 1), (3, .istore_n 2, 1), (4, .iconst 0, 1), (5, .istore_n 3, 1), (6, .iload_n 3, 1), (7, .aload_n 0, 1), (8, .getfield 9, 3), (11, .iconst 2, 1), (12, .imul, 1), (13, .if_icmp .ge 35, 3), (16, .aload_n 0, 1), (17, .iload_n 3, 1), (18, .iconst 2, 1), (19, .idiv, 1), (20, .iload_n 3, 1), (21, .iconst 2, 1), (22, .irem, 1), (23, .invokevirtual 111, 3), (26, .invokestatic 114, 3), (29, .istore 4, 2), (31, .iload 4, 2), (33, .iload_n 2, 1), (34, .if_icmp .le 8, 3), (37, .iload 4, 2), (39, .istore_n 2, 1), (40, .iload_n 3, 1), (41, .istore_n 1, 1), (42, .iinc 3 1, 3), (45, .goto (-39), 3), (48, .iload_n 1, 1), (49, .ireturn, 1)]
theorem dtX0_worstSlot : dchk cX0_worstSlot tX0_worstSlot = true := by decide +kernel
def tX0_countAt : List (Nat × Instr × Nat) := [(0, .aload_n 0, 1), (1, .iload_n 1, 1), (2, .invokevirtual 117, 3), (5, .ifCond .eq 11, 3), (8, .aload_n 0, 1), (9, .getfield 15, 3), (12, .iconst 1, 1), (13, .if_icmp .ge 5, 3), (16, .iconst 0, 1), (17, .ireturn, 1), (18, .iload_n 1, 1), (19, .aload_n 0, 1), (20, .getfield 15, 3), (23, .idiv, 1), (24, .aload_n 0, 1), (25, .getfield 9, 3), (28, .iconst 2, 1), (29, .isub, 1), (30, .invokestatic 52, 3), (33, .istore_n 2, 1), (34, .aload_n 0, 1), (35, .iload_n 2, 1), (36, .iconst 1, 1), (37, .iadd, 1), (38, .invokevirtual 105, 3), (41, .aload_n 0, 1), (42, .iload_n 2, 1), (43, .invokevirtual 105, 3), (46, .isub, 1), (47, .istore_n 3, 1), (48, .aload_n 0, 1), (49, .iload_n 2, 1), (50, .invokevirtual 105, 3), (53, .iload_n 3, 1), (54, .iload_n 1, 1), (55, .iload_n 2, 1), (56, .aload_n 0, 1), (57, .getfield 15, 3), (60, .imul, 1), (61, .isub, 1), (62, .imul, 1), (63, .aload_n 0, 1), (64, .getfield 15, 3), (67, .invokestatic 120, 3), (70, .iadd, 1), (71, .ireturn, 1)]
theorem dtX0_countAt : dchk cX0_countAt tX0_countAt = true := by decide +kernel
def tX0_placeAt : List (Nat × Instr × Nat) := [(0, .iload_n 1, 1), (1, .aload_n 0, 1), (2, .iconst 0, 1), (3, .invokevirtual 105, 3), (6, .if_icmp .gt 5, 3), (9, .iconst 0, 1), (10, .ireturn, 1), (11, .iconst 0, 1), (12, .istore_n 2, 1), (13, .iload_n 2, 1), (14, .aload_n 0, 1), (15, .getfield 9, 3), (18, .iconst 1, 1), (19, .isub, 1), (20, .if_icmp .ge 67, 3), (23, .aload_n 0, 1), (24, .iload_n 2, 1), (25, .iconst 1, 1), (26, .iadd, 1), (27, .invokevirtual 105, 3), (30, .aload_n 0, 1), (31, .iload_n 2, 1), (32, .invokevirtual 105, 3), (35, .isub, 1), (36, .istore_n 3, 1), (37, .iload_n 1, 1), (38, .aload_n 0, 1), (39, .iload_n 2, 1), (40, .iconst 1, 1), (41, .iadd, 1), (42, .invokevirtual 105, 3), (45, .if_icmp .gt 36, 3), (48, .iload_n 3, 1), (49, .ifCond .le 32, 3), (52, .iload_n 1, 1), (53, .aload_n 0, 1), (54, .iload_n 2, 1), (55, .invokevirtual 105, 3), (58, .isub, 1), (59, .istore 4, 2), (61, .iload_n 2, 1), (62, .aload_n 0, 1), (63, .getfield 15, 3), (66, .imul, 1), (67, .iload 4, 2), (69, .ineg, 1), (70, .aload_n 0, 1), (71, .getfield 15, 3), (74, .imul, 1), (75, .iload_n 3, 1), (76, .invokestatic 120, 3), (79, .isub, 1), (80, .ireturn, 1), (81, .iinc 2 1, 3), (84, .goto (-71), 3), (87, .ldc 123, 2), (89, .ireturn, 1)]
theorem dtX0_placeAt : dchk cX0_placeAt tX0_placeAt = true := by decide +kernel
def tX0_writeOut : List (Nat × Instr × Nat) := [(0, .aload_n 1, 1), (1, .iconst 0, 1), (2, .putfield 124, 3), (5, .iconst 0, 1), (6, .istore_n 2, 1), (7, .iload_n 2, 1), (8, .aload_n 0, 1), (9, .getfield 9, 3), (12, .if_icmp .ge 55, 3), (15, .aload_n 0, 1), (16, .iload_n 2, 1), (17, .invokevirtual 108, 3), (20, .istore_n 3, 1), (21, .aload_n 1, 1), (22, .iload_n 2, 1), (23, .invokevirtual 129, 3), (26, .aload_n 1, 1), (27, .bipush 58, 2), (29, .invokevirtual 133, 3), (32, .aload_n 1, 1), (33, .iload_n 3, 1), (34, .ifCond .ge 8, 3), (37, .bipush 45, 2), (39, .goto 5, 3), (42, .bipush 43, 2), (44, .invokevirtual 133, 3), (47, .aload_n 1, 1), (48, .iload_n 3, 1), (49, .invokestatic 114, 3), (52, .invokevirtual 129, 3), (55, .aload_n 1, 1), (56, .bipush 59, 2), (58, .invokevirtual 133, 3), (61, .iinc 2 1, 3), (64, .goto (-57), 3), (67, .aload_n 1, 1), (68, .bipush 112, 2), (70, .invokevirtual 133, 3), (73, .aload_n 1, 1), (74, .aload_n 0, 1), (75, .getfield 46, 3), (78, .invokevirtual 129, 3), (81, .return_, 1)]
theorem dtX0_writeOut : dchk cX0_writeOut tX0_writeOut = true := by decide +kernel
def tX1_init : List (Nat × Instr × Nat) := [(0, .aload_n 0, 1), (1, .invokespecial 3, 3), (4, .aload_n 0, 1), (5, .iconst 0, 1), (6, .putfield 9, 3), (9, .aload_n 0, 1), (10, .iload_n 1, 1), (11, .iconst 0, 1), (12, .invokestatic 15, 3), (15, .newarray .int, 2), (17, .putfield 21, 3), (20, .return_, 1)]
theorem dtX1_init : dchk cX1_init tX1_init = true := by decide +kernel
def tX1_hasRoomFor : List (Nat × Instr × Nat) := [(0, .aload_n 0, 1), (1, .getfield 9, 3), (4, .iload_n 1, 1), (5, .iadd, 1), (6, .aload_n 0, 1), (7, .getfield 21, 3), (10, .arraylength, 1), (11, .if_icmp .gt 7, 3), (14, .iconst 1, 1), (15, .goto 4, 3), (18, .iconst 0, 1), (19, .ireturn, 1)]
theorem dtX1_hasRoomFor : dchk cX1_hasRoomFor tX1_hasRoomFor = true := by decide +kernel
def tX1_at : List (Nat × Instr × Nat) := [(0, .iload_n 1, 1), (1, .ifCond .lt 20, 3), (4, .iload_n 1, 1), (5, .aload_n 0, 1), (6, .getfield 9, 3), (9, .if_icmp .ge 12, 3), (12, .aload_n 0, 1), (13, .getfield 21, 3), (16, .iload_n 1, 1), (17, .iaload, 1), (18, .goto 4, 3), (21, .iconst (-1), 1), (22, .ireturn, 1)]
theorem dtX1_at : dchk cX1_at tX1_at = true := by decide +kernel
def tX1_put : List (Nat × Instr × Nat) := [(0, .aload_n 0, 1), (1, .aload_n 0, 1), (2, .getfield 9, 3), (5, .iload_n 1, 1), (6, .invokevirtual 25, 3), (9, .return_, 1)]
theorem dtX1_put : dchk cX1_put tX1_put = true := by decide +kernel
def tX1_putAt : List (Nat × Instr × Nat) := [(0, .iload_n 1, 1), (1, .ifCond .lt 19, 3), (4, .iload_n 1, 1), (5, .aload_n 0, 1), (6, .getfield 9, 3), (9, .if_icmp .gt 11, 3), (12, .aload_n 0, 1), (13, .iconst 1, 1), (14, .invokevirtual 29, 3), (17, .ifCond .ne 4, 3), (20, .return_, 1), (21, .aload_n 0, 1), (22, .getfield 9, 3), (25, .istore_n 3, 1), (26, .iload_n 3, 1), (27, .iload_n 1, 1), (28, .if_icmp .le 23, 3), (31, .aload_n 0, 1), (32, .getfield 21, 3), (35, .iload_n 3, 1), (36, .aload_n 0, 1), (37, .getfield 21, 3), (40, .iload_n 3, 1), (41, .iconst 1, 1), (42, .isub, 1), (43, .iaload, 1), (44, .iastore, 1), (45, .iinc 3 (-1), 3), (48, .goto (-22), 3), (51, .aload_n 0, 1), (52, .getfield 21, 3), (55, .iload_n 1, 1), (56, .iload_n 2, 1), (57, .iastore, 1), (58, .aload_n 0, 1), (59, .dup, 1), (60, .getfield 9, 3), (63, .iconst 1, 1), (64, .iadd, 1), (65, .putfield 9, 3), (68, .return_, 1)]
theorem dtX1_putAt : dchk cX1_putAt tX1_putAt = true := by decide +kernel
def tX1_putAll : List (Nat × Instr × Nat) := [(0, .aload_n 1, 1), (1, .getfield 9, 3), (4, .istore_n 2, 1), (5, .iconst 0, 1), (6, .istore_n 3, 1), (7, .iload_n 3, 1), (8, .iload_n 2, 1), (9, .if_icmp .ge 18, 3), (12, .aload_n 0, 1), (13, .aload_n 1, 1), (14, .iload_n 3, 1), (15, .invokevirtual 33, 3), (18, .invokevirtual 37, 3), (21, .iinc 3 1, 3), (24, .goto (-17), 3), (27, .return_, 1)]
theorem dtX1_putAll : dchk cX1_putAll tX1_putAll = true := by decide +kernel
def tX1_putNumber : List (Nat × Instr × Nat) := [(0, .iconst 1, 1), (1, .istore_n 2, 1), (2, .iload_n 2, 1), (3, .iload_n 1, 1), (4, .bipush 10, 2), (6, .idiv, 1), (7, .if_icmp .gt 11, 3), (10, .iload_n 2, 1), (11, .bipush 10, 2), (13, .imul, 1), (14, .istore_n 2, 1), (15, .goto (-13), 3), (18, .iload_n 2, 1), (19, .ifCond .le 24, 3), (22, .aload_n 0, 1), (23, .bipush 48, 2), (25, .iload_n 1, 1), (26, .iload_n 2, 1), (27, .idiv, 1), (28, .bipush 10, 2), (30, .irem, 1), (31, .iadd, 1), (32, .invokevirtual 37, 3), (35, .iload_n 2, 1), (36, .bipush 10, 2), (38, .idiv, 1), (39, .istore_n 2, 1), (40, .goto (-22), 3), (43, .return_, 1)]
theorem dtX1_putNumber : dchk cX1_putNumber tX1_putNumber = true := by decide +kernel
def tX1_remove : List (Nat × Instr × Nat) := [(0, .iload_n 1, 1), (1, .ifCond .lt 16, 3), (4, .iload_n 1, 1), (5, .iload_n 2, 1), (6, .if_icmp .gt 11, 3), (9, .iload_n 2, 1), (10, .aload_n 0, 1), (11, .getfield 9, 3), (14, .if_icmp .le 4, 3), (17, .return_, 1), (18, .iload_n 2, 1), (19, .istore_n 3, 1), (20, .iload_n 3, 1), (21, .aload_n 0, 1), (22, .getfield 9, 3), (25, .if_icmp .ge 25, 3), (28, .aload_n 0, 1), (29, .getfield 21, 3), (32, .iload_n 1, 1), (33, .iload_n 3, 1), (34, .iadd, 1), (35, .iload_n 2, 1), (36, .isub, 1), (37, .aload_n 0, 1), (38, .getfield 21, 3), (41, .iload_n 3, 1), (42, .iaload, 1), (43, .iastore, 1), (44, .iinc 3 1, 3), (47, .goto (-27), 3), (50, .aload_n 0, 1), (51, .dup, 1), (52, .getfield 9, 3), (55, .iload_n 2, 1), (56, .iload_n 1, 1), (57, .isub, 1), (58, .isub, 1), (59, .putfield 9, 3), (62, .return_, 1)]
theorem dtX1_remove : dchk cX1_remove tX1_remove = true := by decide +kernel
def tX1_reverse : List (Nat × Instr × Nat) := [(0, .iconst 0, 1), (1, .istore_n 1, 1), (2, .iload_n 1, 1), (3, .aload_n 0, 1), (4, .getfield 9, 3), (7, .iconst 2, 1), (8, .idiv, 1), (9, .if_icmp .ge 49, 3), (12, .aload_n 0, 1), (13, .getfield 21, 3), (16, .iload_n 1, 1), (17, .iaload, 1), (18, .istore_n 2, 1), (19, .aload_n 0, 1), (20, .getfield 21, 3), (23, .iload_n 1, 1), (24, .aload_n 0, 1), (25, .getfield 21, 3), (28, .aload_n 0, 1), (29, .getfield 9, 3), (32, .iconst 1, 1), (33, .isub, 1), (34, .iload_n 1, 1), (35, .isub, 1), (36, .iaload, 1), (37, .iastore, 1), (38, .aload_n 0, 1), (39, .getfield 21, 3), (42, .aload_n 0, 1), (43, .getfield 9, 3), (46, .iconst 1, 1), (47, .isub, 1), (48, .iload_n 1, 1), (49, .isub, 1), (50, .iload_n 2, 1), (51, .iastore, 1), (52, .iinc 1 1, 3), (55, .goto (-53), 3), (58, .return_, 1)]
theorem dtX1_reverse : dchk cX1_reverse tX1_reverse = true := by decide +kernel
def tX1_orderAgainst : List (Nat × Instr × Nat) := [(0, .iconst 0, 1), (1, .istore_n 2, 1), (2, .iload_n 2, 1), (3, .aload_n 0, 1), (4, .getfield 9, 3), (7, .if_icmp .ge 49, 3), (10, .iload_n 2, 1), (11, .aload_n 1, 1), (12, .getfield 9, 3), (15, .if_icmp .ge 41, 3), (18, .aload_n 0, 1), (19, .iload_n 2, 1), (20, .invokevirtual 33, 3), (23, .aload_n 1, 1), (24, .iload_n 2, 1), (25, .invokevirtual 33, 3), (28, .if_icmp .eq 22, 3), (31, .aload_n 0, 1), (32, .iload_n 2, 1), (33, .invokevirtual 33, 3), (36, .aload_n 1, 1), (37, .iload_n 2, 1), (38, .invokevirtual 33, 3), (41, .if_icmp .ge 7, 3), (44, .iconst 0, 1), (45, .goto 4, 3), (48, .iconst 2, 1), (49, .ireturn, 1), (50, .iinc 2 1, 3), (53, .goto (-51), 3), (56, .iconst 1, 1), (57, .aload_n 0, 1), (58, .getfield 9, 3), (61, .aload_n 1, 1), (62, .getfield 9, 3), (65, .invokestatic 41, 3), (68, .iadd, 1), (69, .ireturn, 1)]
theorem dtX1_orderAgainst : dchk cX1_orderAgainst tX1_orderAgainst = true := by decide +kernel
def tX1_timesOf : List (Nat × Instr × Nat) := [(0, .aload_n 1, 1), (1, .getfield 9, 3), (4, .ifCond .ne 5, 3), (7, .iconst 0, 1), (8, .ireturn, 1), (9, .iconst 0, 1), (10, .istore_n 2, 1), (11, .iconst 0, 1), (12, .istore_n 3, 1), (13, .iload_n 3, 1), (14, .aload_n 1, 1), (15, .getfield 9, 3), (18, .iadd, 1), (19, .aload_n 0, 1), (20, .getfield 9, 3), (23, .if_icmp .gt 21, 3), (26, .aload_n 0, 1), (27, .iload_n 3, 1), (28, .aload_n 1, 1), (29, .invokevirtual 46, 3), (32, .ifCond .eq 6, 3), (35, .iinc 2 1, 3), (38, .iinc 3 1, 3), (41, .goto (-28), 3), (44, .iload_n 2, 1), (45, .ireturn, 1)]
theorem dtX1_timesOf : dchk cX1_timesOf tX1_timesOf = true := by decide +kernel
def tX1_hasAt : List (Nat × Instr × Nat) := [(0, .iconst 0, 1), (1, .istore_n 3, 1), (2, .iload_n 3, 1), (3, .aload_n 2, 1), (4, .getfield 9, 3), (7, .if_icmp .ge 26, 3), (10, .aload_n 0, 1), (11, .iload_n 1, 1), (12, .iload_n 3, 1), (13, .iadd, 1), (14, .invokevirtual 33, 3), (17, .aload_n 2, 1), (18, .iload_n 3, 1), (19, .invokevirtual 33, 3), (22, .if_icmp .eq 5, 3), (25, .iconst 0, 1), (26, .ireturn, 1), (27, .iinc 3 1, 3), (30, .goto (-28), 3), (33, .iconst 1, 1), (34, .ireturn, 1)]
theorem dtX1_hasAt : dchk cX1_hasAt tX1_hasAt = true := by decide +kernel
def tX1_wordIn : List (Nat × Instr × Nat) := [(0, .aload_n 0, 1), (1, .ldc 50, 2), (3, .iload_n 1, 1), (4, .iload_n 2, 1), (5, .invokevirtual 52, 3), (8, .ifCond .eq 5, 3), (11, .iconst 0, 1), (12, .ireturn, 1), (13, .aload_n 0, 1), (14, .ldc 56, 2), (16, .iload_n 1, 1), (17, .iload_n 2, 1), (18, .invokevirtual 52, 3), (21, .ifCond .eq 5, 3), (24, .iconst 1, 1), (25, .ireturn, 1), (26, .aload_n 0, 1), (27, .ldc 58, 2), (29, .iload_n 1, 1), (30, .iload_n 2, 1), (31, .invokevirtual 52, 3), (34, .ifCond .eq 5, 3), (37, .iconst 2, 1), (38, .ireturn, 1), (39, .aload_n 0, 1), (40, .ldc 60, 2), (42, .iload_n 1, 1), (43, .iload_n 2, 1), (44, .invokevirtual 52, 3), (47, .ifCond .eq 7, 3), (50, .iconst 3, 1), (51, .goto 5, 3), (54, .ldc 61, 2), (56, .ireturn, 1)]
theorem dtX1_wordIn : dchk cX1_wordIn tX1_wordIn = true := by decide +kernel
def tX1_spells : List (Nat × Instr × Nat) := [(0, .iload_n 3, 1), (1, .iload_n 2, 1), (2, .isub, 1), (3, .aload_n 1, 1), (4, .invokevirtual 62, 3), (7, .if_icmp .eq 5, 3), (10, .iconst 0, 1), (11, .ireturn, 1), (12, .iconst 0, 1), (13, .istore 4, 2), (15, .iload 4, 2), (17, .aload_n 1, 1), (18, .invokevirtual 62, 3), (21, .if_icmp .ge 28, 3), (24, .aload_n 0, 1), (25, .iload_n 2, 1), (26, .iload 4, 2), (28, .iadd, 1), (29, .invokevirtual 33, 3), (32, .aload_n 1, 1), (33, .iload 4, 2), (35, .invokevirtual 68, 3), (38, .if_icmp .eq 5, 3), (41, .iconst 0, 1), (42, .ireturn, 1), (43, .iinc 4 1, 3), (46, .goto (-31), 3), (49, .iconst 1, 1), (50, .ireturn, 1)]
theorem dtX1_spells : dchk cX1_spells tX1_spells = true := by decide +kernel
def tX1_numberIn : List (Nat × Instr × Nat) := [(0, .iload_n 2, 1), (1, .iload_n 1, 1), (2, .if_icmp .le 10, 3), (5, .iload_n 2, 1), (6, .iload_n 1, 1), (7, .isub, 1), (8, .iload_n 3, 1), (9, .if_icmp .le 5, 3), (12, .iconst (-1), 1), (13, .ireturn, 1), (14, .iconst 0, 1), (15, .istore 4, 2), (17, .iload_n 1, 1), (18, .istore 5, 2), (20, .iload 5, 2), (22, .iload_n 2, 1), (23, .if_icmp .ge 40, 3), (26, .aload_n 0, 1), (27, .iload 5, 2), (29, .invokevirtual 33, 3), (32, .invokestatic 72, 3), (35, .ifCond .ne 5, 3), (38, .iconst (-1), 1), (39, .ireturn, 1), (40, .bipush 10, 2), (42, .iload 4, 2), (44, .imul, 1), (45, .aload_n 0, 1), (46, .iload 5, 2), (48, .invokevirtual 33, 3), (51, .iadd, 1), (52, .bipush 48, 2), (54, .isub, 1), (55, .istore 4, 2), (57, .iinc 5 1, 3), (60, .goto (-40), 3), (63, .iload 4, 2), (65, .ireturn, 1)]
theorem dtX1_numberIn : dchk cX1_numberIn tX1_numberIn = true := by decide +kernel
def tX2_init : List (Nat × Instr × Nat) := [(0, .aload_n 0, 1), (1, .invokespecial 3, 3), (4, .aload_n 0, 1), (5, .iconst 3, 1), (6, .putfield 9, 3), (9, .aload_n 0, 1), (10, .bipush 20, 2), (12, .putfield 15, 3), (15, .aload_n 0, 1), (16, .bipush 16, 2), (18, .newarray .int, 2), (20, .putfield 18, 3), (23, .aload_n 0, 1), (24, .bipush 96, 2), (26, .newarray .int, 2), (28, .putfield 22, 3), (31, .return_, 1)]
theorem dtX2_init : dchk cX2_init tX2_init = true := by decide +kernel
def tX2_begin : List (Nat × Instr × Nat) := [(0, .aload_n 0, 1), (1, .iconst 2, 1), (2, .iload_n 1, 1), (3, .bipush 8, 2), (5, .invokestatic 25, 3), (8, .invokestatic 31, 3), (11, .putfield 9, 3), (14, .aload_n 0, 1), (15, .bipush 10, 2), (17, .iload_n 2, 1), (18, .bipush 99, 2), (20, .invokestatic 25, 3), (23, .invokestatic 31, 3), (26, .putfield 15, 3), (29, .iconst 0, 1), (30, .istore_n 3, 1), (31, .iload_n 3, 1), (32, .aload_n 0, 1), (33, .getfield 18, 3), (36, .arraylength, 1), (37, .if_icmp .ge 16, 3), (40, .aload_n 0, 1), (41, .getfield 18, 3), (44, .iload_n 3, 1), (45, .iconst 0, 1), (46, .iastore, 1), (47, .iinc 3 1, 3), (50, .goto (-19), 3), (53, .return_, 1)]
theorem dtX2_begin : dchk cX2_begin tX2_begin = true := by decide +kernel
def tX2_hasPoint : List (Nat × Instr × Nat) := [(0, .iload_n 1, 1), (1, .ifCond .lt 15, 3), (4, .iload_n 1, 1), (5, .aload_n 0, 1), (6, .getfield 9, 3), (9, .if_icmp .ge 7, 3), (12, .iconst 1, 1), (13, .goto 4, 3), (16, .iconst 0, 1), (17, .ireturn, 1)]
theorem dtX2_hasPoint : dchk cX2_hasPoint tX2_hasPoint = true := by decide +kernel
def tX2_slotOf : List (Nat × Instr × Nat) := [(0, .iload_n 1, 1), (1, .ifCond .lt 28, 3), (4, .iload_n 1, 1), (5, .aload_n 0, 1), (6, .getfield 9, 3), (9, .if_icmp .ge 20, 3), (12, .iload_n 2, 1), (13, .ifCond .lt 16, 3), (16, .iload_n 2, 1), (17, .iconst 2, 1), (18, .if_icmp .ge 11, 3), (21, .iload_n 1, 1), (22, .iconst 2, 1), (23, .imul, 1), (24, .iload_n 2, 1), (25, .iadd, 1), (26, .goto 4, 3), (29, .iconst (-1), 1), (30, .ireturn, 1)]
theorem dtX2_slotOf : dchk cX2_slotOf tX2_slotOf = true := by decide +kernel
def tX2_countAt : List (Nat × Instr × Nat) := [(0, .aload_n 0, 1), (1, .iload_n 1, 1), (2, .iload_n 2, 1), (3, .invokevirtual 34, 3), (6, .istore_n 3, 1), (7, .iload_n 3, 1), (8, .ifCond .ge 7, 3), (11, .iconst 0, 1), (12, .goto 9, 3), (15, .aload_n 0, 1), (16, .getfield 18, 3), (19, .iload_n 3, 1), (20, .iaload, 1), (21, .ireturn, 1)]
theorem dtX2_countAt : dchk cX2_countAt tX2_countAt = true := by decide +kernel
def tX2_errAt : List (Nat × Instr × Nat) := [(0, .aload_n 0, 1), (1, .iload_n 1, 1), (2, .iload_n 2, 1), (3, .invokevirtual 34, 3), (6, .istore 4, 2), (8, .iload 4, 2), (10, .ifCond .lt 18, 3), (13, .iload_n 3, 1), (14, .ifCond .lt 14, 3), (17, .iload_n 3, 1), (18, .aload_n 0, 1), (19, .getfield 18, 3), (22, .iload 4, 2), (24, .iaload, 1), (25, .if_icmp .lt 8, 3), (28, .ldc 37, 2), (30, .goto 15, 3), (33, .aload_n 0, 1), (34, .getfield 22, 3), (37, .iload 4, 2), (39, .bipush 6, 2), (41, .imul, 1), (42, .iload_n 3, 1), (43, .iadd, 1), (44, .iaload, 1), (45, .ireturn, 1)]
theorem dtX2_errAt : dchk cX2_errAt tX2_errAt = true := by decide +kernel
def tX2_add : List (Nat × Instr × Nat) := [(0, .aload_n 0, 1), (1, .iload_n 1, 1), (2, .iload_n 2, 1), (3, .invokevirtual 34, 3), (6, .istore 4, 2), (8, .iload 4, 2), (10, .ifCond .ge 5, 3), (13, .iconst 0, 1), (14, .ireturn, 1), (15, .iload 4, 2), (17, .bipush 6, 2), (19, .imul, 1), (20, .istore 5, 2), (22, .aload_n 0, 1), (23, .getfield 18, 3), (26, .iload 4, 2), (28, .iaload, 1), (29, .bipush 6, 2), (31, .if_icmp .lt 29, 3), (34, .aload_n 0, 1), (35, .getfield 22, 3), (38, .iload 5, 2), (40, .iconst 1, 1), (41, .iadd, 1), (42, .aload_n 0, 1), (43, .getfield 22, 3), (46, .iload 5, 2), (48, .iconst 5, 1), (49, .invokestatic 38, 3), (52, .aload_n 0, 1), (53, .getfield 18, 3), (56, .iload 4, 2), (58, .iconst 5, 1), (59, .iastore, 1), (60, .aload_n 0, 1), (61, .getfield 22, 3), (64, .iload 5, 2), (66, .aload_n 0, 1), (67, .getfield 18, 3), (70, .iload 4, 2), (72, .iaload, 1), (73, .iadd, 1), (74, .iload_n 3, 1), (75, .iastore, 1), (76, .aload_n 0, 1), (77, .getfield 18, 3), (80, .iload 4, 2), (82, .dup2, 1), (83, .iaload, 1), (84, .iconst 1, 1), (85, .iadd, 1), (86, .iastore, 1), (87, .aload_n 0, 1), (88, .getfield 18, 3), (91, .iload 4, 2), (93, .iaload, 1), (94, .ireturn, 1)]
theorem dtX2_add : dchk cX2_add tX2_add = true := by decide +kernel
def tX2_forget : List (Nat × Instr × Nat) := [(0, .aload_n 0, 1), (1, .iload_n 1, 1), (2, .iload_n 2, 1), (3, .invokevirtual 34, 3), (6, .istore_n 3, 1), (7, .iload_n 3, 1), (8, .ifCond .ge 5, 3), (11, .iconst 0, 1), (12, .ireturn, 1), (13, .aload_n 0, 1), (14, .getfield 18, 3), (17, .iload_n 3, 1), (18, .iaload, 1), (19, .istore 4, 2), (21, .aload_n 0, 1), (22, .getfield 18, 3), (25, .iload_n 3, 1), (26, .iconst 0, 1), (27, .iastore, 1), (28, .iload 4, 2), (30, .ireturn, 1)]
theorem dtX2_forget : dchk cX2_forget tX2_forget = true := by decide +kernel
def tX2_meanOf : List (Nat × Instr × Nat) := [(0, .aload_n 0, 1), (1, .iload_n 1, 1), (2, .iload_n 2, 1), (3, .invokevirtual 44, 3), (6, .istore_n 3, 1), (7, .iload_n 3, 1), (8, .ifCond .ne 5, 3), (11, .iconst 0, 1), (12, .ireturn, 1), (13, .iconst 0, 1), (14, .istore 4, 2), (16, .iconst 0, 1), (17, .istore 5, 2), (19, .iload 5, 2), (21, .iload_n 3, 1), (22, .if_icmp .ge 22, 3), (25, .iload 4, 2), (27, .aload_n 0, 1), (28, .iload_n 1, 1), (29, .iload_n 2, 1), (30, .iload 5, 2), (32, .invokevirtual 47, 3), (35, .iadd, 1), (36, .istore 4, 2), (38, .iinc 5 1, 3), (41, .goto (-22), 3), (44, .iload 4, 2), (46, .bipush 60, 2), (48, .imul, 1), (49, .iload_n 3, 1), (50, .idiv, 1), (51, .ireturn, 1)]
theorem dtX2_meanOf : dchk cX2_meanOf tX2_meanOf = true := by decide +kernel
def tX2_countOfAll : List (Nat × Instr × Nat) := [(0, .iconst 0, 1), (1, .istore_n 1, 1), (2, .iconst 0, 1), (3, .istore_n 2, 1), (4, .iload_n 2, 1), (5, .aload_n 0, 1), (6, .getfield 18, 3), (9, .arraylength, 1), (10, .if_icmp .ge 18, 3), (13, .iload_n 1, 1), (14, .aload_n 0, 1), (15, .getfield 18, 3), (18, .iload_n 2, 1), (19, .iaload, 1), (20, .iadd, 1), (21, .istore_n 1, 1), (22, .iinc 2 1, 3), (25, .goto (-21), 3), (28, .iload_n 1, 1), (29, .ireturn, 1)]
theorem dtX2_countOfAll : dchk cX2_countOfAll tX2_countOfAll = true := by decide +kernel
def tX2_copyFrom : List (Nat × Instr × Nat) := [(0, .aload_n 0, 1), (1, .aload_n 1, 1), (2, .getfield 9, 3), (5, .putfield 9, 3), (8, .aload_n 0, 1), (9, .aload_n 1, 1), (10, .getfield 15, 3), (13, .putfield 15, 3), (16, .aload_n 1, 1), (17, .getfield 18, 3), (20, .iconst 0, 1), (21, .aload_n 0, 1), (22, .getfield 18, 3), (25, .iconst 0, 1), (26, .aload_n 0, 1), (27, .getfield 18, 3), (30, .arraylength, 1), (31, .invokestatic 38, 3), (34, .aload_n 1, 1), (35, .getfield 22, 3), (38, .iconst 0, 1), (39, .aload_n 0, 1), (40, .getfield 22, 3), (43, .iconst 0, 1), (44, .aload_n 0, 1), (45, .getfield 22, 3), (48, .arraylength, 1), (49, .invokestatic 38, 3), (52, .return_, 1)]
theorem dtX2_copyFrom : dchk cX2_copyFrom tX2_copyFrom = true := by decide +kernel
def tX3_init : List (Nat × Instr × Nat) := [(0, .aload_n 0, 1), (1, .invokespecial 1, 3), (4, .aload_n 0, 1), (5, .new 7, 3), (8, .dup, 1), (9, .invokespecial 9, 3), (12, .putfield 10, 3), (15, .aload_n 0, 1), (16, .iconst 0, 1), (17, .putfield 16, 3), (20, .aload_n 0, 1), (21, .iconst 0, 1), (22, .putfield 20, 3), (25, .aload_n 0, 1), (26, .iconst 0, 1), (27, .putfield 23, 3), (30, .aload_n 0, 1), (31, .iconst 0, 1), (32, .putfield 26, 3), (35, .aload_n 0, 1), (36, .iconst 1, 1), (37, .putfield 29, 3), (40, .return_, 1)]
theorem dtX3_init : dchk cX3_init tX3_init = true := by decide +kernel
def tX3_rest : List (Nat × Instr × Nat) := [(0, .aload_n 0, 1), (1, .iconst 0, 1), (2, .putfield 16, 3), (5, .aload_n 0, 1), (6, .iload_n 1, 1), (7, .putfield 20, 3), (10, .aload_n 0, 1), (11, .iconst 0, 1), (12, .putfield 23, 3), (15, .aload_n 0, 1), (16, .iconst 0, 1), (17, .putfield 26, 3), (20, .aload_n 0, 1), (21, .iconst 1, 1), (22, .putfield 29, 3), (25, .return_, 1)]
theorem dtX3_rest : dchk cX3_rest tX3_rest = true := by decide +kernel
def tX3_go : List (Nat × Instr × Nat) := [(0, .iload_n 3, 1), (1, .aload_n 0, 1), (2, .getfield 29, 3), (5, .if_icmp .eq 13, 3), (8, .aload_n 0, 1), (9, .dup, 1), (10, .getfield 23, 3), (13, .iconst 1, 1), (14, .iadd, 1), (15, .putfield 23, 3), (18, .aload_n 0, 1), (19, .dup, 1), (20, .getfield 26, 3), (23, .iload_n 2, 1), (24, .aload_n 0, 1), (25, .getfield 20, 3), (28, .isub, 1), (29, .invokestatic 33, 3), (32, .iadd, 1), (33, .putfield 26, 3), (36, .aload_n 0, 1), (37, .iload_n 1, 1), (38, .putfield 16, 3), (41, .aload_n 0, 1), (42, .iload_n 2, 1), (43, .putfield 20, 3), (46, .aload_n 0, 1), (47, .iload_n 3, 1), (48, .putfield 29, 3), (51, .return_, 1)]
theorem dtX3_go : dchk cX3_go tX3_go = true := by decide +kernel
def tX3_copyFrom : List (Nat × Instr × Nat) := [(0, .aload_n 0, 1), (1, .getfield 10, 3), (4, .aload_n 1, 1), (5, .getfield 10, 3), (8, .invokevirtual 39, 3), (11, .aload_n 0, 1), (12, .aload_n 1, 1), (13, .getfield 16, 3), (16, .putfield 16, 3), (19, .aload_n 0, 1), (20, .aload_n 1, 1), (21, .getfield 20, 3), (24, .putfield 20, 3), (27, .aload_n 0, 1), (28, .aload_n 1, 1), (29, .getfield 23, 3), (32, .putfield 23, 3), (35, .aload_n 0, 1), (36, .aload_n 1, 1), (37, .getfield 26, 3), (40, .putfield 26, 3), (43, .aload_n 0, 1), (44, .aload_n 1, 1), (45, .getfield 29, 3), (48, .putfield 29, 3), (51, .return_, 1)]
theorem dtX3_copyFrom : dchk cX3_copyFrom tX3_copyFrom = true := by decide +kernel
def tX4_init : List (Nat × Instr × Nat) := [(0, .aload_n 0, 1), (1, .invokespecial 3, 3), (4, .aload_n 0, 1), (5, .bipush 8, 2), (7, .anewarray 9, 3), (10, .putfield 11, 3), (13, .aload_n 0, 1), (14, .iconst 0, 1), (15, .putfield 17, 3), (18, .aload_n 0, 1), (19, .iconst 0, 1), (20, .putfield 21, 3), (23, .iconst 0, 1), (24, .istore_n 1, 1), (25, .iload_n 1, 1), (26, .bipush 8, 2), (28, .if_icmp .ge 22, 3), (31, .aload_n 0, 1), (32, .getfield 11, 3), (35, .iload_n 1, 1), (36, .new 9, 3), (39, .dup, 1), (40, .invokespecial 24, 3), (43, .aastore, 1), (44, .iinc 1 1, 3), (47, .goto (-22), 3), (50, .return_, 1)]
theorem dtX4_init : dchk cX4_init tX4_init = true := by decide +kernel
def tX4_remember : List (Nat × Instr × Nat) := [(0, .aload_n 0, 1), (1, .getfield 11, 3), (4, .aload_n 0, 1), (5, .getfield 17, 3), (8, .aaload, 1), (9, .aload_n 1, 1), (10, .invokevirtual 25, 3), (13, .aload_n 0, 1), (14, .aload_n 0, 1), (15, .getfield 17, 3), (18, .iconst 1, 1), (19, .iadd, 1), (20, .bipush 8, 2), (22, .irem, 1), (23, .putfield 17, 3), (26, .aload_n 0, 1), (27, .aload_n 0, 1), (28, .getfield 21, 3), (31, .iconst 1, 1), (32, .iadd, 1), (33, .bipush 8, 2), (35, .invokestatic 29, 3), (38, .putfield 21, 3), (41, .return_, 1)]
theorem dtX4_remember : dchk cX4_remember tX4_remember = true := by decide +kernel
def tX4_recallInto : List (Nat × Instr × Nat) := [(0, .aload_n 0, 1), (1, .getfield 21, 3), (4, .ifCond .ne 4, 3), (7, .return_, 1), (8, .aload_n 0, 1), (9, .aload_n 0, 1), (10, .getfield 17, 3), (13, .bipush 8, 2), (15, .iadd, 1), (16, .iconst 1, 1), (17, .isub, 1), (18, .bipush 8, 2), (20, .irem, 1), (21, .putfield 17, 3), (24, .aload_n 0, 1), (25, .dup, 1), (26, .getfield 21, 3), (29, .iconst 1, 1), (30, .isub, 1), (31, .putfield 21, 3), (34, .aload_n 1, 1), (35, .aload_n 0, 1), (36, .getfield 11, 3), (39, .aload_n 0, 1), (40, .getfield 17, 3), (43, .aaload, 1), (44, .invokevirtual 25, 3), (47, .return_, 1)]
theorem dtX4_recallInto : dchk cX4_recallInto tX4_recallInto = true := by decide +kernel
def tX4_forgetAll : List (Nat × Instr × Nat) := [(0, .aload_n 0, 1), (1, .iconst 0, 1), (2, .putfield 21, 3), (5, .return_, 1)]
theorem dtX4_forgetAll : dchk cX4_forgetAll tX4_forgetAll = true := by decide +kernel
def tX5_init : List (Nat × Instr × Nat) := [(0, .aload_n 0, 1), (1, .invokespecial 3, 3), (4, .aload_n 0, 1), (5, .sipush 201, 3), (8, .newarray .int, 2), (10, .putfield 9, 3), (13, .aload_n 0, 1), (14, .sipush 201, 3), (17, .newarray .int, 2), (19, .putfield 15, 3), (22, .aload_n 0, 1), (23, .sipush 201, 3), (26, .newarray .int, 2), (28, .putfield 18, 3), (31, .aload_n 0, 1), (32, .iconst 0, 1), (33, .putfield 21, 3), (36, .aload_n 0, 1), (37, .iconst 0, 1), (38, .putfield 25, 3), (41, .aload_n 0, 1), (42, .iconst 0, 1), (43, .putfield 28, 3), (46, .return_, 1)]
theorem dtX5_init : dchk cX5_init tX5_init = true := by decide +kernel
def tX5_readInto : List (Nat × Instr × Nat) := [(0, .aload_n 0, 1), (1, .aload_n 2, 1), (2, .invokevirtual 31, 3), (5, .aload_n 0, 1), (6, .iconst 0, 1), (7, .putfield 25, 3), (10, .aload_n 0, 1), (11, .iconst 1, 1), (12, .putfield 28, 3), (15, .aload_n 0, 1), (16, .getfield 28, 3), (19, .bipush 24, 2), (21, .if_icmp .gt 80, 3), (24, .aload_n 0, 1), (25, .aload_n 1, 1), (26, .invokevirtual 35, 3), (29, .ifCond .ne 13, 3), (32, .aload_n 0, 1), (33, .getfield 9, 3), (36, .aload_n 0, 1), (37, .getfield 25, 3), (40, .iaload, 1), (41, .ireturn, 1), (42, .aload_n 0, 1), (43, .getfield 15, 3), (46, .aload_n 0, 1), (47, .getfield 25, 3), (50, .iaload, 1), (51, .ifCond .ne 5, 3), (54, .iconst (-1), 1), (55, .ireturn, 1), (56, .aload_n 0, 1), (57, .bipush 59, 2), (59, .invokevirtual 39, 3), (62, .ifCond .eq 12, 3), (65, .aload_n 0, 1), (66, .getfield 28, 3), (69, .bipush 24, 2), (71, .if_icmp .ne 13, 3), (74, .aload_n 0, 1), (75, .getfield 9, 3), (78, .aload_n 0, 1), (79, .getfield 25, 3), (82, .iaload, 1), (83, .ireturn, 1), (84, .aload_n 0, 1), (85, .invokevirtual 43, 3), (88, .aload_n 0, 1), (89, .dup, 1), (90, .getfield 28, 3), (93, .iconst 1, 1), (94, .iadd, 1), (95, .putfield 28, 3), (98, .goto (-83), 3), (101, .aload_n 0, 1), (102, .getfield 9, 3), (105, .aload_n 0, 1), (106, .getfield 25, 3), (109, .iaload, 1), (110, .ireturn, 1)]
theorem dtX5_readInto : dchk cX5_readInto tX5_readInto = true := by decide +kernel
def tX5_partIntoTokens_0 : List (Nat × Instr × Nat) := [(0, .aload_n 0, 1), (1, .iconst 0, 1), (2, .putfield 21, 3), (5, .iconst 0, 1), (6, .istore_n 2, 1), (7, .iload_n 2, 1), (8, .aload_n 1, 1), (9, .getfield 46, 3), (12, .if_icmp .ge 136, 3), (15, .iload_n 2, 1), (16, .iconst 1, 1), (17, .iadd, 1), (18, .istore_n 3, 1), (19, .aload_n 1, 1), (20, .iload_n 2, 1), (21, .invokevirtual 51, 3), (24, .invokestatic 55, 3), (27, .ifCond .eq 43, 3), (30, .iload_n 3, 1), (31, .aload_n 1, 1), (32, .getfield 46, 3), (35, .if_icmp .ge 20, 3), (38, .aload_n 1, 1), (39, .iload_n 3, 1), (40, .invokevirtual 51, 3), (43, .invokestatic 55, 3), (46, .ifCond .eq 9, 3), (49, .iinc 3 1, 3), (52, .goto (-22), 3), (55, .aload_n 0, 1), (56, .iload_n 2, 1), (57, .iconst 1, 1), (58, .aload_n 1, 1), (59, .iload_n 2, 1), (60, .iload_n 3, 1), (61, .invokevirtual 58, 3), (64, .invokevirtual 62, 3), (67, .goto 76, 3), (70, .aload_n 1, 1), (71, .iload_n 2, 1), (72, .invokevirtual 51, 3), (75, .invokestatic 66, 3), (78, .ifCond .eq 44, 3), (81, .iload_n 3, 1), (82, .aload_n 1, 1), (83, .getfield 46, 3), (86, .if_icmp .ge 20, 3), (89, .aload_n 1, 1), (90, .iload_n 3, 1), (91, .invokevirtual 51, 3), (94, .invokestatic 66, 3), (97, .ifCond .eq 9, 3), (100, .iinc 3 1, 3), (103, .goto (-22), 3), (106, .aload_n 0, 1), (107, .iload_n 2, 1), (108, .iconst 2, 1), (109, .aload_n 1, 1), (110, .iload_n 2, 1), (111, .iload_n 3, 1), (112, .iconst 2, 1), (113, .invokevirtual 69, 3), (116, .invokevirtual 62, 3), (119, .goto 24, 3)]
theorem dtX5_partIntoTokens_0 : dchk cX5_partIntoTokens tX5_partIntoTokens_0 = true := by decide +kernel
def tX5_partIntoTokens_1 : List (Nat × Instr × Nat) := [(122, .aload_n 1, 1), (123, .iload_n 2, 1), (124, .invokevirtual 51, 3), (127, .bipush 32, 2), (129, .if_icmp .eq 14, 3), (132, .aload_n 0, 1), (133, .iload_n 2, 1), (134, .iconst 3, 1), (135, .aload_n 1, 1), (136, .iload_n 2, 1), (137, .invokevirtual 51, 3), (140, .invokevirtual 62, 3), (143, .iload_n 3, 1), (144, .istore_n 2, 1), (145, .goto (-138), 3), (148, .aload_n 0, 1), (149, .aload_n 1, 1), (150, .getfield 46, 3), (153, .iconst 0, 1), (154, .iconst 0, 1), (155, .invokevirtual 62, 3), (158, .return_, 1)]
theorem dtX5_partIntoTokens_1 : dchk cX5_partIntoTokens tX5_partIntoTokens_1 = true := by decide +kernel
def tX5_addToken : List (Nat × Instr × Nat) := [(0, .aload_n 0, 1), (1, .getfield 21, 3), (4, .aload_n 0, 1), (5, .getfield 9, 3), (8, .arraylength, 1), (9, .if_icmp .lt 4, 3), (12, .return_, 1), (13, .aload_n 0, 1), (14, .getfield 9, 3), (17, .aload_n 0, 1), (18, .getfield 21, 3), (21, .iload_n 1, 1), (22, .iastore, 1), (23, .aload_n 0, 1), (24, .getfield 15, 3), (27, .aload_n 0, 1), (28, .getfield 21, 3), (31, .iload_n 2, 1), (32, .iastore, 1), (33, .aload_n 0, 1), (34, .getfield 18, 3), (37, .aload_n 0, 1), (38, .getfield 21, 3), (41, .iload_n 3, 1), (42, .iastore, 1), (43, .aload_n 0, 1), (44, .dup, 1), (45, .getfield 21, 3), (48, .iconst 1, 1), (49, .iadd, 1), (50, .putfield 21, 3), (53, .return_, 1)]
theorem dtX5_addToken : dchk cX5_addToken tX5_addToken = true := by decide +kernel
def tX5_goOn : List (Nat × Instr × Nat) := [(0, .aload_n 0, 1), (1, .getfield 25, 3), (4, .aload_n 0, 1), (5, .getfield 21, 3), (8, .iconst 1, 1), (9, .isub, 1), (10, .if_icmp .ge 13, 3), (13, .aload_n 0, 1), (14, .dup, 1), (15, .getfield 25, 3), (18, .iconst 1, 1), (19, .iadd, 1), (20, .putfield 25, 3), (23, .return_, 1)]
theorem dtX5_goOn : dchk cX5_goOn tX5_goOn = true := by decide +kernel
def tX5_isSign : List (Nat × Instr × Nat) := [(0, .aload_n 0, 1), (1, .getfield 15, 3), (4, .aload_n 0, 1), (5, .getfield 25, 3), (8, .iaload, 1), (9, .iconst 3, 1), (10, .if_icmp .ne 20, 3), (13, .aload_n 0, 1), (14, .getfield 18, 3), (17, .aload_n 0, 1), (18, .getfield 25, 3), (21, .iaload, 1), (22, .iload_n 1, 1), (23, .if_icmp .ne 7, 3), (26, .iconst 1, 1), (27, .goto 4, 3), (30, .iconst 0, 1), (31, .ireturn, 1)]
theorem dtX5_isSign : dchk cX5_isSign tX5_isSign = true := by decide +kernel
def tX5_readClause : List (Nat × Instr × Nat) := [(0, .aload_n 0, 1), (1, .getfield 15, 3), (4, .aload_n 0, 1), (5, .getfield 25, 3), (8, .iaload, 1), (9, .iconst 1, 1), (10, .if_icmp .eq 5, 3), (13, .iconst 0, 1), (14, .ireturn, 1), (15, .aload_n 0, 1), (16, .getfield 18, 3), (19, .aload_n 0, 1), (20, .getfield 25, 3), (23, .iaload, 1), (24, .istore_n 2, 1), (25, .iload_n 2, 1), (26, .tableswitch 61 0 3 #[30, 30, 41, 51], 30), (56, .aload_n 0, 1), (57, .invokevirtual 43, 3), (60, .aload_n 0, 1), (61, .aload_n 1, 1), (62, .iload_n 2, 1), (63, .invokevirtual 73, 3), (66, .ireturn, 1), (67, .aload_n 0, 1), (68, .invokevirtual 43, 3), (71, .aload_n 0, 1), (72, .aload_n 1, 1), (73, .invokevirtual 77, 3), (76, .ireturn, 1), (77, .aload_n 0, 1), (78, .invokevirtual 43, 3), (81, .aload_n 0, 1), (82, .aload_n 1, 1), (83, .invokevirtual 80, 3), (86, .ireturn, 1), (87, .iconst 0, 1), (88, .ireturn, 1)]
theorem dtX5_readClause : dchk cX5_readClause tX5_readClause = true := by decide +kernel
def tX5_readAxis : List (Nat × Instr × Nat) := [(0, .aload_n 0, 1), (1, .iconst 2, 1), (2, .bipush 8, 2), (4, .invokevirtual 83, 3), (7, .istore_n 2, 1), (8, .iload_n 2, 1), (9, .iconst (-1), 1), (10, .if_icmp .ne 5, 3), (13, .iconst 0, 1), (14, .ireturn, 1), (15, .aload_n 0, 1), (16, .bipush 10, 2), (18, .bipush 99, 2), (20, .invokevirtual 83, 3), (23, .istore_n 3, 1), (24, .iload_n 3, 1), (25, .iconst (-1), 1), (26, .if_icmp .ne 5, 3), (29, .iconst 0, 1), (30, .ireturn, 1), (31, .aload_n 1, 1), (32, .iload_n 2, 1), (33, .iload_n 3, 1), (34, .invokevirtual 86, 3), (37, .iconst 1, 1), (38, .ireturn, 1)]
theorem dtX5_readAxis : dchk cX5_readAxis tX5_readAxis = true := by decide +kernel
def tX5_readRow : List (Nat × Instr × Nat) := [(0, .iconst 0, 1), (1, .istore_n 3, 1), (2, .iload_n 3, 1), (3, .aload_n 1, 1), (4, .getfield 92, 3), (7, .if_icmp .ge 21, 3), (10, .aload_n 0, 1), (11, .aload_n 1, 1), (12, .iload_n 3, 1), (13, .iload_n 2, 1), (14, .invokevirtual 95, 3), (17, .ifCond .ne 5, 3), (20, .iconst 0, 1), (21, .ireturn, 1), (22, .iinc 3 1, 3), (25, .goto (-23), 3), (28, .iconst 1, 1), (29, .ireturn, 1)]
theorem dtX5_readRow : dchk cX5_readRow tX5_readRow = true := by decide +kernel
def tX5_readOne : List (Nat × Instr × Nat) := [(0, .aload_n 0, 1), (1, .iconst 0, 1), (2, .aload_n 1, 1), (3, .getfield 92, 3), (6, .iconst 1, 1), (7, .isub, 1), (8, .invokevirtual 83, 3), (11, .istore_n 2, 1), (12, .iload_n 2, 1), (13, .iconst (-1), 1), (14, .if_icmp .ne 5, 3), (17, .iconst 0, 1), (18, .ireturn, 1), (19, .aload_n 0, 1), (20, .getfield 18, 3), (23, .aload_n 0, 1), (24, .getfield 25, 3), (27, .iaload, 1), (28, .istore_n 3, 1), (29, .aload_n 0, 1), (30, .getfield 15, 3), (33, .aload_n 0, 1), (34, .getfield 25, 3), (37, .iaload, 1), (38, .iconst 1, 1), (39, .if_icmp .ne 10, 3), (42, .iload_n 3, 1), (43, .invokestatic 99, 3), (46, .ifCond .ne 5, 3), (49, .iconst 0, 1), (50, .ireturn, 1), (51, .aload_n 0, 1), (52, .invokevirtual 43, 3), (55, .aload_n 0, 1), (56, .aload_n 1, 1), (57, .iload_n 2, 1), (58, .iload_n 3, 1), (59, .invokevirtual 95, 3), (62, .ireturn, 1)]
theorem dtX5_readOne : dchk cX5_readOne tX5_readOne = true := by decide +kernel
def tX5_readErr : List (Nat × Instr × Nat) := [(0, .aload_n 0, 1), (1, .bipush 45, 2), (3, .invokevirtual 39, 3), (6, .istore 4, 2), (8, .iload 4, 2), (10, .ifCond .eq 7, 3), (13, .aload_n 0, 1), (14, .invokevirtual 43, 3), (17, .aload_n 0, 1), (18, .iconst 0, 1), (19, .bipush 40, 2), (21, .invokevirtual 83, 3), (24, .istore 5, 2), (26, .iload 5, 2), (28, .iconst (-1), 1), (29, .if_icmp .ne 5, 3), (32, .iconst 0, 1), (33, .ireturn, 1), (34, .aload_n 1, 1), (35, .iload_n 2, 1), (36, .iload_n 3, 1), (37, .iload 4, 2), (39, .ifCond .eq 9, 3), (42, .iload 5, 2), (44, .ineg, 1), (45, .goto 5, 3), (48, .iload 5, 2), (50, .invokevirtual 102, 3), (53, .pop, 1), (54, .iconst 1, 1), (55, .ireturn, 1)]
theorem dtX5_readErr : dchk cX5_readErr tX5_readErr = true := by decide +kernel
def tX5_readNumber : List (Nat × Instr × Nat) := [(0, .aload_n 0, 1), (1, .getfield 18, 3), (4, .aload_n 0, 1), (5, .getfield 25, 3), (8, .iaload, 1), (9, .istore_n 3, 1), (10, .aload_n 0, 1), (11, .getfield 15, 3), (14, .aload_n 0, 1), (15, .getfield 25, 3), (18, .iaload, 1), (19, .iconst 2, 1), (20, .if_icmp .ne 13, 3), (23, .iload_n 3, 1), (24, .iload_n 1, 1), (25, .if_icmp .lt 8, 3), (28, .iload_n 3, 1), (29, .iload_n 2, 1), (30, .if_icmp .le 5, 3), (33, .iconst (-1), 1), (34, .ireturn, 1), (35, .aload_n 0, 1), (36, .invokevirtual 43, 3), (39, .iload_n 3, 1), (40, .ireturn, 1)]
theorem dtX5_readNumber : dchk cX5_readNumber tX5_readNumber = true := by decide +kernel
def tX6_init_0 : List (Nat × Instr × Nat) := [(0, .aload_n 0, 1), (1, .invokespecial 1, 3), (4, .aload_n 0, 1), (5, .new 7, 3), (8, .dup, 1), (9, .sipush 200, 3), (12, .invokespecial 11, 3), (15, .putfield 14, 3), (18, .aload_n 0, 1), (19, .new 18, 3), (22, .dup, 1), (23, .invokespecial 20, 3), (26, .putfield 21, 3), (29, .aload_n 0, 1), (30, .new 25, 3), (33, .dup, 1), (34, .invokespecial 27, 3), (37, .putfield 28, 3), (40, .aload_n 0, 1), (41, .new 32, 3), (44, .dup, 1), (45, .invokespecial 34, 3), (48, .putfield 35, 3), (51, .aload_n 0, 1), (52, .iconst 2, 1), (53, .anewarray 25, 3), (56, .putfield 39, 3), (59, .aload_n 0, 1), (60, .iconst 2, 1), (61, .newarray .boolean, 2), (63, .putfield 43, 3), (66, .aload_n 0, 1), (67, .new 47, 3), (70, .dup, 1), (71, .invokespecial 49, 3), (74, .putfield 50, 3), (77, .aload_n 0, 1), (78, .new 54, 3), (81, .dup, 1), (82, .invokespecial 56, 3), (85, .putfield 57, 3), (88, .aload_n 0, 1), (89, .new 47, 3), (92, .dup, 1), (93, .invokespecial 49, 3), (96, .putfield 61, 3), (99, .aload_n 0, 1), (100, .new 7, 3), (103, .dup, 1), (104, .sipush 128, 3), (107, .invokespecial 11, 3), (110, .putfield 64, 3), (113, .aload_n 0, 1), (114, .iconst 3, 1), (115, .anewarray 7, 3), (118, .putfield 67, 3), (121, .aload_n 0, 1), (122, .iconst 3, 1), (123, .newarray .boolean, 2), (125, .putfield 71, 3), (128, .iconst 0, 1), (129, .istore_n 1, 1), (130, .iload_n 1, 1), (131, .iconst 2, 1)]
theorem dtX6_init_0 : dchk cX6_init tX6_init_0 = true := by decide +kernel
def tX6_init_1 : List (Nat × Instr × Nat) := [(132, .if_icmp .ge 22, 3), (135, .aload_n 0, 1), (136, .getfield 39, 3), (139, .iload_n 1, 1), (140, .new 25, 3), (143, .dup, 1), (144, .invokespecial 27, 3), (147, .aastore, 1), (148, .iinc 1 1, 3), (151, .goto (-21), 3), (154, .iconst 0, 1), (155, .istore_n 1, 1), (156, .iload_n 1, 1), (157, .iconst 3, 1), (158, .if_icmp .ge 24, 3), (161, .aload_n 0, 1), (162, .getfield 67, 3), (165, .iload_n 1, 1), (166, .new 7, 3), (169, .dup, 1), (170, .bipush 24, 2), (172, .invokespecial 11, 3), (175, .aastore, 1), (176, .iinc 1 1, 3), (179, .goto (-23), 3), (182, .aload_n 0, 1), (183, .invokevirtual 74, 3), (186, .return_, 1)]
theorem dtX6_init_1 : dchk cX6_init tX6_init_1 = true := by decide +kernel
def tX6_write : List (Nat × Instr × Nat) := [(0, .iload_n 1, 1), (1, .ifCond .lt 10, 3), (4, .iload_n 1, 1), (5, .sipush 255, 3), (8, .if_icmp .le 6, 3), (11, .ldc 77, 2), (13, .ireturn, 1), (14, .aload_n 0, 1), (15, .getfield 14, 3), (18, .iconst 1, 1), (19, .invokevirtual 78, 3), (22, .ifCond .ne 6, 3), (25, .ldc 82, 2), (27, .ireturn, 1), (28, .aload_n 0, 1), (29, .getfield 14, 3), (32, .iload_n 1, 1), (33, .invokevirtual 83, 3), (36, .aload_n 0, 1), (37, .getfield 14, 3), (40, .getfield 86, 3), (43, .ireturn, 1)]
theorem dtX6_write : dchk cX6_write tX6_write = true := by decide +kernel
def tX6_erase : List (Nat × Instr × Nat) := [(0, .aload_n 0, 1), (1, .getfield 14, 3), (4, .getfield 86, 3), (7, .istore_n 1, 1), (8, .aload_n 0, 1), (9, .getfield 14, 3), (12, .iconst 0, 1), (13, .putfield 86, 3), (16, .iload_n 1, 1), (17, .ireturn, 1)]
theorem dtX6_erase : dchk cX6_erase tX6_erase = true := by decide +kernel
def tX6_fault : List (Nat × Instr × Nat) := [(0, .aload_n 0, 1), (1, .getfield 57, 3), (4, .aload_n 0, 1), (5, .getfield 28, 3), (8, .getfield 90, 3), (11, .invokevirtual 93, 3), (14, .aload_n 0, 1), (15, .getfield 21, 3), (18, .aload_n 0, 1), (19, .getfield 57, 3), (22, .aload_n 0, 1), (23, .getfield 14, 3), (26, .invokevirtual 97, 3), (29, .ireturn, 1)]
theorem dtX6_fault : dchk cX6_fault tX6_fault = true := by decide +kernel
def tX6_axis_0 : List (Nat × Instr × Nat) := [(0, .aload_n 0, 1), (1, .getfield 57, 3), (4, .aload_n 0, 1), (5, .getfield 28, 3), (8, .getfield 90, 3), (11, .invokevirtual 93, 3), (14, .aload_n 0, 1), (15, .getfield 21, 3), (18, .aload_n 0, 1), (19, .getfield 57, 3), (22, .aload_n 0, 1), (23, .getfield 14, 3), (26, .invokevirtual 97, 3), (29, .iconst (-1), 1), (30, .if_icmp .eq 6, 3), (33, .ldc 101, 2), (35, .ireturn, 1), (36, .aload_n 0, 1), (37, .getfield 28, 3), (40, .getfield 90, 3), (43, .aload_n 0, 1), (44, .getfield 57, 3), (47, .invokevirtual 93, 3), (50, .aload_n 0, 1), (51, .invokevirtual 74, 3), (54, .aload_n 0, 1), (55, .getfield 28, 3), (58, .aload_n 0, 1), (59, .getfield 50, 3), (62, .iconst 0, 1), (63, .invokevirtual 102, 3), (66, .invokevirtual 106, 3), (69, .aload_n 0, 1), (70, .getfield 35, 3), (73, .invokevirtual 109, 3), (76, .iconst 0, 1), (77, .istore_n 1, 1), (78, .iload_n 1, 1), (79, .iconst 2, 1), (80, .if_icmp .ge 16, 3), (83, .aload_n 0, 1), (84, .getfield 43, 3), (87, .iload_n 1, 1), (88, .iconst 0, 1), (89, .bastore, 1), (90, .iinc 1 1, 3), (93, .goto (-15), 3), (96, .iconst 0, 1), (97, .istore_n 1, 1), (98, .iload_n 1, 1), (99, .iconst 3, 1), (100, .if_icmp .ge 16, 3), (103, .aload_n 0, 1), (104, .getfield 71, 3), (107, .iload_n 1, 1), (108, .iconst 0, 1), (109, .bastore, 1), (110, .iinc 1 1, 3), (113, .goto (-15), 3), (116, .aload_n 0, 1), (117, .getfield 14, 3), (120, .iconst 0, 1), (121, .putfield 86, 3), (124, .aload_n 0, 1)]
theorem dtX6_axis_0 : dchk cX6_axis tX6_axis_0 = true := by decide +kernel
def tX6_axis_1 : List (Nat × Instr × Nat) := [(125, .getfield 21, 3), (128, .getfield 112, 3), (131, .ireturn, 1)]
theorem dtX6_axis_1 : dchk cX6_axis tX6_axis_1 = true := by decide +kernel
def tX6_run : List (Nat × Instr × Nat) := [(0, .aload_n 0, 1), (1, .iload_n 1, 1), (2, .iload_n 2, 1), (3, .iload_n 3, 1), (4, .invokevirtual 115, 3), (7, .istore 4, 2), (9, .iload 4, 2), (11, .ifCond .eq 6, 3), (14, .iload 4, 2), (16, .ireturn, 1), (17, .aload_n 0, 1), (18, .getfield 35, 3), (21, .aload_n 0, 1), (22, .getfield 28, 3), (25, .invokevirtual 119, 3), (28, .aload_n 0, 1), (29, .getfield 28, 3), (32, .getfield 90, 3), (35, .iload_n 1, 1), (36, .iload_n 2, 1), (37, .iload_n 3, 1), (38, .invokevirtual 123, 3), (41, .istore 5, 2), (43, .aload_n 0, 1), (44, .invokevirtual 74, 3), (47, .iload 5, 2), (49, .ireturn, 1)]
theorem dtX6_run : dchk cX6_run tX6_run = true := by decide +kernel
def tX6_clear : List (Nat × Instr × Nat) := [(0, .aload_n 0, 1), (1, .getfield 28, 3), (4, .getfield 90, 3), (7, .iload_n 1, 1), (8, .invokevirtual 126, 3), (11, .ifCond .ne 6, 3), (14, .ldc 129, 2), (16, .ireturn, 1), (17, .iload_n 2, 1), (18, .invokestatic 130, 3), (21, .ifCond .ne 6, 3), (24, .ldc 77, 2), (26, .ireturn, 1), (27, .aload_n 0, 1), (28, .getfield 28, 3), (31, .getfield 90, 3), (34, .iload_n 1, 1), (35, .iload_n 2, 1), (36, .invokevirtual 133, 3), (39, .ifCond .ne 6, 3), (42, .ldc 101, 2), (44, .ireturn, 1), (45, .aload_n 0, 1), (46, .getfield 35, 3), (49, .aload_n 0, 1), (50, .getfield 28, 3), (53, .invokevirtual 119, 3), (56, .aload_n 0, 1), (57, .getfield 28, 3), (60, .getfield 90, 3), (63, .iload_n 1, 1), (64, .iload_n 2, 1), (65, .invokevirtual 136, 3), (68, .istore_n 3, 1), (69, .aload_n 0, 1), (70, .invokevirtual 74, 3), (73, .iload_n 3, 1), (74, .ireturn, 1)]
theorem dtX6_clear : dchk cX6_clear tX6_clear = true := by decide +kernel
def tX6_undo : List (Nat × Instr × Nat) := [(0, .aload_n 0, 1), (1, .getfield 35, 3), (4, .getfield 139, 3), (7, .ifCond .ne 6, 3), (10, .ldc 101, 2), (12, .ireturn, 1), (13, .aload_n 0, 1), (14, .getfield 35, 3), (17, .aload_n 0, 1), (18, .getfield 28, 3), (21, .invokevirtual 142, 3), (24, .aload_n 0, 1), (25, .invokevirtual 74, 3), (28, .aload_n 0, 1), (29, .getfield 35, 3), (32, .getfield 139, 3), (35, .ireturn, 1)]
theorem dtX6_undo : dchk cX6_undo tX6_undo = true := by decide +kernel
def tX6_keep : List (Nat × Instr × Nat) := [(0, .iload_n 1, 1), (1, .ifCond .lt 8, 3), (4, .iload_n 1, 1), (5, .iconst 2, 1), (6, .if_icmp .lt 6, 3), (9, .ldc 129, 2), (11, .ireturn, 1), (12, .aload_n 0, 1), (13, .getfield 39, 3), (16, .iload_n 1, 1), (17, .aaload, 1), (18, .aload_n 0, 1), (19, .getfield 28, 3), (22, .invokevirtual 145, 3), (25, .aload_n 0, 1), (26, .getfield 43, 3), (29, .iload_n 1, 1), (30, .iconst 1, 1), (31, .bastore, 1), (32, .aload_n 0, 1), (33, .getfield 28, 3), (36, .getfield 147, 3), (39, .ireturn, 1)]
theorem dtX6_keep : dchk cX6_keep tX6_keep = true := by decide +kernel
def tX6_back : List (Nat × Instr × Nat) := [(0, .iload_n 1, 1), (1, .ifCond .lt 8, 3), (4, .iload_n 1, 1), (5, .iconst 2, 1), (6, .if_icmp .lt 6, 3), (9, .ldc 129, 2), (11, .ireturn, 1), (12, .aload_n 0, 1), (13, .getfield 43, 3), (16, .iload_n 1, 1), (17, .baload, 1), (18, .ifCond .ne 6, 3), (21, .ldc 101, 2), (23, .ireturn, 1), (24, .aload_n 0, 1), (25, .getfield 28, 3), (28, .aload_n 0, 1), (29, .getfield 39, 3), (32, .iload_n 1, 1), (33, .aaload, 1), (34, .invokevirtual 145, 3), (37, .aload_n 0, 1), (38, .getfield 35, 3), (41, .invokevirtual 109, 3), (44, .aload_n 0, 1), (45, .invokevirtual 74, 3), (48, .aload_n 0, 1), (49, .getfield 28, 3), (52, .getfield 147, 3), (55, .ireturn, 1)]
theorem dtX6_back : dchk cX6_back tX6_back = true := by decide +kernel
def tX6_runAt : List (Nat × Instr × Nat) := [(0, .aload_n 0, 1), (1, .getfield 28, 3), (4, .getfield 90, 3), (7, .iload_n 1, 1), (8, .invokevirtual 126, 3), (11, .ifCond .ne 6, 3), (14, .ldc 129, 2), (16, .ireturn, 1), (17, .iload_n 2, 1), (18, .invokestatic 130, 3), (21, .ifCond .eq 7, 3), (24, .iload_n 3, 1), (25, .ifCond .ge 6, 3), (28, .ldc 77, 2), (30, .ireturn, 1), (31, .aload_n 0, 1), (32, .getfield 28, 3), (35, .getfield 90, 3), (38, .iload_n 1, 1), (39, .iload_n 2, 1), (40, .iload_n 3, 1), (41, .invokevirtual 150, 3), (44, .ireturn, 1)]
theorem dtX6_runAt : dchk cX6_runAt tX6_runAt = true := by decide +kernel
def tX6_point_0 : List (Nat × Instr × Nat) := [(0, .aload_n 0, 1), (1, .getfield 50, 3), (4, .iload_n 1, 1), (5, .invokevirtual 153, 3), (8, .ifCond .ne 6, 3), (11, .ldc 129, 2), (13, .ireturn, 1), (14, .iload_n 2, 1), (15, .ifCond .lt 16, 3), (18, .iload_n 2, 1), (19, .bipush 6, 2), (21, .if_icmp .gt 10, 3), (24, .iload_n 3, 1), (25, .invokestatic 154, 3), (28, .ifCond .ne 6, 3), (31, .ldc 77, 2), (33, .ireturn, 1), (34, .iload_n 2, 1), (35, .tableswitch 103 0 4 #[33, 33, 49, 64, 79], 33), (68, .aload_n 0, 1), (69, .getfield 50, 3), (72, .iload_n 1, 1), (73, .iload_n 2, 1), (74, .invokevirtual 157, 3), (77, .bipush 60, 2), (79, .iload_n 3, 1), (80, .invokestatic 160, 3), (83, .ireturn, 1), (84, .aload_n 0, 1), (85, .getfield 50, 3), (88, .iload_n 1, 1), (89, .invokevirtual 163, 3), (92, .bipush 120, 2), (94, .iload_n 3, 1), (95, .invokestatic 160, 3), (98, .ireturn, 1), (99, .aload_n 0, 1), (100, .getfield 50, 3), (103, .iload_n 1, 1), (104, .invokevirtual 166, 3), (107, .bipush 120, 2), (109, .iload_n 3, 1), (110, .invokestatic 160, 3), (113, .ireturn, 1), (114, .aload_n 0, 1), (115, .getfield 50, 3), (118, .iload_n 1, 1), (119, .invokevirtual 169, 3), (122, .bipush 120, 2), (124, .aload_n 0, 1), (125, .getfield 50, 3), (128, .iload_n 1, 1), (129, .invokevirtual 172, 3), (132, .imul, 1), (133, .iload_n 3, 1), (134, .invokestatic 160, 3), (137, .ireturn, 1), (138, .aload_n 0, 1), (139, .getfield 50, 3), (142, .iload_n 1, 1), (143, .iload_n 2, 1), (144, .iconst 5, 1), (145, .isub, 1), (146, .invokevirtual 175, 3)]
theorem dtX6_point_0 : dchk cX6_point tX6_point_0 = true := by decide +kernel
def tX6_point_1 : List (Nat × Instr × Nat) := [(149, .bipush 60, 2), (151, .iload_n 3, 1), (152, .invokestatic 160, 3), (155, .ireturn, 1)]
theorem dtX6_point_1 : dchk cX6_point tX6_point_1 = true := by decide +kernel
def tX6_table : List (Nat × Instr × Nat) := [(0, .aload_n 0, 1), (1, .getfield 50, 3), (4, .iload_n 1, 1), (5, .invokevirtual 153, 3), (8, .ifCond .ne 6, 3), (11, .ldc 129, 2), (13, .ireturn, 1), (14, .iload_n 2, 1), (15, .tableswitch 52 0 2 #[25, 34, 43], 25), (40, .aload_n 0, 1), (41, .getfield 50, 3), (44, .iload_n 1, 1), (45, .invokevirtual 178, 3), (48, .ireturn, 1), (49, .aload_n 0, 1), (50, .getfield 50, 3), (53, .iload_n 1, 1), (54, .invokevirtual 181, 3), (57, .ireturn, 1), (58, .aload_n 0, 1), (59, .getfield 50, 3), (62, .iload_n 1, 1), (63, .invokevirtual 172, 3), (66, .ireturn, 1), (67, .ldc 77, 2), (69, .ireturn, 1)]
theorem dtX6_table : dchk cX6_table tX6_table = true := by decide +kernel
def tX6_play : List (Nat × Instr × Nat) := [(0, .iload_n 1, 1), (1, .invokestatic 154, 3), (4, .ifCond .ne 6, 3), (7, .ldc 77, 2), (9, .ireturn, 1), (10, .aload_n 0, 1), (11, .getfield 50, 3), (14, .getfield 184, 3), (17, .bipush 60, 2), (19, .aload_n 0, 1), (20, .getfield 50, 3), (23, .getfield 187, 3), (26, .imul, 1), (27, .iload_n 1, 1), (28, .invokestatic 160, 3), (31, .ireturn, 1)]
theorem dtX6_play : dchk cX6_play tX6_play = true := by decide +kernel
def tX6_worst : List (Nat × Instr × Nat) := [(0, .aload_n 0, 1), (1, .getfield 50, 3), (4, .invokevirtual 190, 3), (7, .ireturn, 1)]
theorem dtX6_worst : dchk cX6_worst tX6_worst = true := by decide +kernel
def tX6_merged : List (Nat × Instr × Nat) := [(0, .aload_n 0, 1), (1, .iload_n 1, 1), (2, .iload_n 2, 1), (3, .iload_n 3, 1), (4, .invokevirtual 115, 3), (7, .istore 4, 2), (9, .iload 4, 2), (11, .ifCond .eq 6, 3), (14, .iload 4, 2), (16, .ireturn, 1), (17, .aload_n 0, 1), (18, .getfield 57, 3), (21, .aload_n 0, 1), (22, .getfield 28, 3), (25, .getfield 90, 3), (28, .invokevirtual 93, 3), (31, .aload_n 0, 1), (32, .getfield 57, 3), (35, .iload_n 1, 1), (36, .iload_n 2, 1), (37, .iload_n 3, 1), (38, .invokevirtual 123, 3), (41, .pop, 1), (42, .aload_n 0, 1), (43, .getfield 61, 3), (46, .aload_n 0, 1), (47, .getfield 57, 3), (50, .invokevirtual 194, 3), (53, .aload_n 0, 1), (54, .getfield 61, 3), (57, .iload_n 1, 1), (58, .invokevirtual 178, 3), (61, .ireturn, 1)]
theorem dtX6_merged : dchk cX6_merged tX6_merged = true := by decide +kernel
end
section
def tX6_move : List (Nat × Instr × Nat) := [(0, .aload_n 0, 1), (1, .getfield 50, 3), (4, .iload_n 1, 1), (5, .invokevirtual 197, 3), (8, .ifCond .ne 6, 3), (11, .ldc 77, 2), (13, .ireturn, 1), (14, .iload_n 1, 1), (15, .aload_n 0, 1), (16, .getfield 28, 3), (19, .getfield 147, 3), (22, .if_icmp .ne 6, 3), (25, .ldc 101, 2), (27, .ireturn, 1), (28, .aload_n 0, 1), (29, .getfield 35, 3), (32, .aload_n 0, 1), (33, .getfield 28, 3), (36, .invokevirtual 119, 3), (39, .iload_n 1, 1), (40, .aload_n 0, 1), (41, .getfield 28, 3), (44, .getfield 147, 3), (47, .if_icmp .le 7, 3), (50, .iconst 1, 1), (51, .goto 4, 3), (54, .iconst 0, 1), (55, .istore_n 2, 1), (56, .aload_n 0, 1), (57, .getfield 50, 3), (60, .iload_n 1, 1), (61, .invokevirtual 102, 3), (64, .istore_n 3, 1), (65, .aload_n 0, 1), (66, .getfield 28, 3), (69, .iload_n 1, 1), (70, .iload_n 2, 1), (71, .ifCond .eq 7, 3), (74, .iload_n 3, 1), (75, .goto 12, 3), (78, .iload_n 3, 1), (79, .aload_n 0, 1), (80, .getfield 50, 3), (83, .getfield 200, 3), (86, .isub, 1), (87, .iload_n 2, 1), (88, .invokevirtual 203, 3), (91, .aload_n 0, 1), (92, .getfield 28, 3), (95, .getfield 207, 3), (98, .ireturn, 1)]
theorem dtX6_move : dchk cX6_move tX6_move = true := by decide +kernel
def tX6_countOf : List (Nat × Instr × Nat) := [(0, .aload_n 0, 1), (1, .getfield 50, 3), (4, .iload_n 1, 1), (5, .invokevirtual 197, 3), (8, .ifCond .eq 14, 3), (11, .aload_n 0, 1), (12, .getfield 50, 3), (15, .iload_n 1, 1), (16, .invokevirtual 102, 3), (19, .goto 5, 3), (22, .ldc 77, 2), (24, .ireturn, 1)]
theorem dtX6_countOf : dchk cX6_countOf tX6_countOf = true := by decide +kernel
def tX6_placeOf : List (Nat × Instr × Nat) := [(0, .iload_n 1, 1), (1, .sipush (-200), 3), (4, .if_icmp .lt 10, 3), (7, .iload_n 1, 1), (8, .sipush 2000, 3), (11, .if_icmp .le 6, 3), (14, .ldc 77, 2), (16, .ireturn, 1), (17, .aload_n 0, 1), (18, .getfield 50, 3), (21, .iload_n 1, 1), (22, .invokevirtual 210, 3), (25, .ireturn, 1)]
theorem dtX6_placeOf : dchk cX6_placeOf tX6_placeOf = true := by decide +kernel
def tX6_told : List (Nat × Instr × Nat) := [(0, .iload_n 1, 1), (1, .tableswitch 179 0 12 #[67, 75, 83, 91, 99, 107, 115, 123, 139, 150, 158, 163, 171], 67), (68, .aload_n 0, 1), (69, .getfield 50, 3), (72, .getfield 187, 3), (75, .ireturn, 1), (76, .aload_n 0, 1), (77, .getfield 50, 3), (80, .getfield 213, 3), (83, .ireturn, 1), (84, .aload_n 0, 1), (85, .getfield 50, 3), (88, .getfield 200, 3), (91, .ireturn, 1), (92, .aload_n 0, 1), (93, .getfield 28, 3), (96, .getfield 147, 3), (99, .ireturn, 1), (100, .aload_n 0, 1), (101, .getfield 28, 3), (104, .getfield 207, 3), (107, .ireturn, 1), (108, .aload_n 0, 1), (109, .getfield 28, 3), (112, .getfield 216, 3), (115, .ireturn, 1), (116, .aload_n 0, 1), (117, .getfield 28, 3), (120, .getfield 219, 3), (123, .ireturn, 1), (124, .aload_n 0, 1), (125, .getfield 28, 3), (128, .getfield 222, 3), (131, .ifCond .eq 7, 3), (134, .iconst 1, 1), (135, .goto 4, 3), (138, .iconst 0, 1), (139, .ireturn, 1), (140, .aload_n 0, 1), (141, .getfield 28, 3), (144, .getfield 90, 3), (147, .invokevirtual 226, 3), (150, .ireturn, 1), (151, .aload_n 0, 1), (152, .getfield 64, 3), (155, .getfield 86, 3), (158, .ireturn, 1), (159, .aload_n 0, 1), (160, .invokevirtual 229, 3), (163, .ireturn, 1), (164, .aload_n 0, 1), (165, .getfield 35, 3), (168, .getfield 139, 3), (171, .ireturn, 1), (172, .aload_n 0, 1), (173, .getfield 14, 3), (176, .getfield 86, 3), (179, .ireturn, 1), (180, .ldc 77, 2), (182, .ireturn, 1)]
theorem dtX6_told : dchk cX6_told tX6_told = true := by decide +kernel
def tX6_sheet : List (Nat × Instr × Nat) := [(0, .iload_n 1, 1), (1, .ifCond .ge 6, 3), (4, .ldc 77, 2), (6, .ireturn, 1), (7, .iload_n 1, 1), (8, .aload_n 0, 1), (9, .getfield 64, 3), (12, .getfield 86, 3), (15, .if_icmp .ge 14, 3), (18, .aload_n 0, 1), (19, .getfield 64, 3), (22, .iload_n 1, 1), (23, .invokevirtual 232, 3), (26, .goto 5, 3), (29, .ldc 235, 2), (31, .ireturn, 1)]
theorem dtX6_sheet : dchk cX6_sheet tX6_sheet = true := by decide +kernel
def tX6_label : List (Nat × Instr × Nat) := [(0, .iload_n 1, 1), (1, .invokestatic 236, 3), (4, .ifCond .ne 6, 3), (7, .ldc 129, 2), (9, .ireturn, 1), (10, .aload_n 0, 1), (11, .getfield 71, 3), (14, .iload_n 1, 1), (15, .iconst 1, 1), (16, .bastore, 1), (17, .aload_n 0, 1), (18, .getfield 67, 3), (21, .iload_n 1, 1), (22, .aaload, 1), (23, .iconst 0, 1), (24, .putfield 86, 3), (27, .iconst 0, 1), (28, .ireturn, 1)]
theorem dtX6_label : dchk cX6_label tX6_label = true := by decide +kernel
def tX6_insert : List (Nat × Instr × Nat) := [(0, .iload_n 1, 1), (1, .invokestatic 236, 3), (4, .ifCond .ne 6, 3), (7, .ldc 129, 2), (9, .ireturn, 1), (10, .iload_n 3, 1), (11, .bipush 32, 2), (13, .if_icmp .lt 9, 3), (16, .iload_n 3, 1), (17, .bipush 126, 2), (19, .if_icmp .le 6, 3), (22, .ldc 77, 2), (24, .ireturn, 1), (25, .aload_n 0, 1), (26, .getfield 71, 3), (29, .iload_n 1, 1), (30, .baload, 1), (31, .ifCond .ne 6, 3), (34, .ldc 239, 2), (36, .ireturn, 1), (37, .iload_n 2, 1), (38, .ifCond .lt 16, 3), (41, .iload_n 2, 1), (42, .aload_n 0, 1), (43, .getfield 67, 3), (46, .iload_n 1, 1), (47, .aaload, 1), (48, .getfield 86, 3), (51, .if_icmp .le 6, 3), (54, .ldc 240, 2), (56, .ireturn, 1), (57, .aload_n 0, 1), (58, .getfield 67, 3), (61, .iload_n 1, 1), (62, .aaload, 1), (63, .iconst 1, 1), (64, .invokevirtual 78, 3), (67, .ifCond .ne 6, 3), (70, .ldc 241, 2), (72, .ireturn, 1), (73, .aload_n 0, 1), (74, .getfield 67, 3), (77, .iload_n 1, 1), (78, .aaload, 1), (79, .iload_n 2, 1), (80, .iload_n 3, 1), (81, .invokevirtual 242, 3), (84, .aload_n 0, 1), (85, .getfield 67, 3), (88, .iload_n 1, 1), (89, .aaload, 1), (90, .getfield 86, 3), (93, .ireturn, 1)]
theorem dtX6_insert : dchk cX6_insert tX6_insert = true := by decide +kernel
def tX6_cut : List (Nat × Instr × Nat) := [(0, .aload_n 0, 1), (1, .iload_n 1, 1), (2, .invokevirtual 246, 3), (5, .istore 4, 2), (7, .iload 4, 2), (9, .ifCond .eq 6, 3), (12, .iload 4, 2), (14, .ireturn, 1), (15, .iload_n 2, 1), (16, .ifCond .lt 21, 3), (19, .iload_n 2, 1), (20, .iload_n 3, 1), (21, .if_icmp .gt 16, 3), (24, .iload_n 3, 1), (25, .aload_n 0, 1), (26, .getfield 67, 3), (29, .iload_n 1, 1), (30, .aaload, 1), (31, .getfield 86, 3), (34, .if_icmp .le 6, 3), (37, .ldc 240, 2), (39, .ireturn, 1), (40, .aload_n 0, 1), (41, .getfield 67, 3), (44, .iload_n 1, 1), (45, .aaload, 1), (46, .iload_n 2, 1), (47, .iload_n 3, 1), (48, .invokevirtual 249, 3), (51, .aload_n 0, 1), (52, .getfield 67, 3), (55, .iload_n 1, 1), (56, .aaload, 1), (57, .getfield 86, 3), (60, .ireturn, 1)]
theorem dtX6_cut : dchk cX6_cut tX6_cut = true := by decide +kernel
def tX6_join : List (Nat × Instr × Nat) := [(0, .aload_n 0, 1), (1, .iload_n 1, 1), (2, .iload_n 2, 1), (3, .invokevirtual 252, 3), (6, .istore_n 3, 1), (7, .iload_n 3, 1), (8, .ifCond .eq 5, 3), (11, .iload_n 3, 1), (12, .ireturn, 1), (13, .aload_n 0, 1), (14, .getfield 67, 3), (17, .iload_n 1, 1), (18, .aaload, 1), (19, .aload_n 0, 1), (20, .getfield 67, 3), (23, .iload_n 2, 1), (24, .aaload, 1), (25, .getfield 86, 3), (28, .invokevirtual 78, 3), (31, .ifCond .ne 6, 3), (34, .ldc 241, 2), (36, .ireturn, 1), (37, .aload_n 0, 1), (38, .getfield 67, 3), (41, .iload_n 1, 1), (42, .aaload, 1), (43, .aload_n 0, 1), (44, .getfield 67, 3), (47, .iload_n 2, 1), (48, .aaload, 1), (49, .invokevirtual 255, 3), (52, .aload_n 0, 1), (53, .getfield 67, 3), (56, .iload_n 1, 1), (57, .aaload, 1), (58, .getfield 86, 3), (61, .ireturn, 1)]
theorem dtX6_join : dchk cX6_join tX6_join = true := by decide +kernel
def tX6_turn : List (Nat × Instr × Nat) := [(0, .aload_n 0, 1), (1, .iload_n 1, 1), (2, .invokevirtual 246, 3), (5, .istore_n 2, 1), (6, .iload_n 2, 1), (7, .ifCond .eq 5, 3), (10, .iload_n 2, 1), (11, .ireturn, 1), (12, .aload_n 0, 1), (13, .getfield 67, 3), (16, .iload_n 1, 1), (17, .aaload, 1), (18, .invokevirtual 259, 3), (21, .aload_n 0, 1), (22, .getfield 67, 3), (25, .iload_n 1, 1), (26, .aaload, 1), (27, .getfield 86, 3), (30, .ireturn, 1)]
theorem dtX6_turn : dchk cX6_turn tX6_turn = true := by decide +kernel
def tX6_letter : List (Nat × Instr × Nat) := [(0, .aload_n 0, 1), (1, .iload_n 1, 1), (2, .invokevirtual 246, 3), (5, .istore_n 3, 1), (6, .iload_n 3, 1), (7, .ifCond .eq 5, 3), (10, .iload_n 3, 1), (11, .ireturn, 1), (12, .iload_n 2, 1), (13, .ifCond .lt 29, 3), (16, .iload_n 2, 1), (17, .aload_n 0, 1), (18, .getfield 67, 3), (21, .iload_n 1, 1), (22, .aaload, 1), (23, .getfield 86, 3), (26, .if_icmp .ge 16, 3), (29, .aload_n 0, 1), (30, .getfield 67, 3), (33, .iload_n 1, 1), (34, .aaload, 1), (35, .iload_n 2, 1), (36, .invokevirtual 232, 3), (39, .goto 5, 3), (42, .ldc 240, 2), (44, .ireturn, 1)]
theorem dtX6_letter : dchk cX6_letter tX6_letter = true := by decide +kernel
def tX6_compare : List (Nat × Instr × Nat) := [(0, .aload_n 0, 1), (1, .iload_n 1, 1), (2, .iload_n 2, 1), (3, .invokevirtual 252, 3), (6, .istore_n 3, 1), (7, .iload_n 3, 1), (8, .ifCond .eq 7, 3), (11, .iload_n 3, 1), (12, .goto 18, 3), (15, .aload_n 0, 1), (16, .getfield 67, 3), (19, .iload_n 1, 1), (20, .aaload, 1), (21, .aload_n 0, 1), (22, .getfield 67, 3), (25, .iload_n 2, 1), (26, .aaload, 1), (27, .invokevirtual 262, 3), (30, .ireturn, 1)]
theorem dtX6_compare : dchk cX6_compare tX6_compare = true := by decide +kernel
def tX6_times : List (Nat × Instr × Nat) := [(0, .aload_n 0, 1), (1, .iload_n 1, 1), (2, .invokevirtual 246, 3), (5, .istore_n 2, 1), (6, .iload_n 2, 1), (7, .ifCond .eq 7, 3), (10, .iload_n 2, 1), (11, .goto 16, 3), (14, .aload_n 0, 1), (15, .getfield 64, 3), (18, .aload_n 0, 1), (19, .getfield 67, 3), (22, .iload_n 1, 1), (23, .aaload, 1), (24, .invokevirtual 266, 3), (27, .ireturn, 1)]
theorem dtX6_times : dchk cX6_times tX6_times = true := by decide +kernel
def tX6_word : List (Nat × Instr × Nat) := [(0, .aload_n 0, 1), (1, .iload_n 1, 1), (2, .invokevirtual 246, 3), (5, .istore_n 2, 1), (6, .iload_n 2, 1), (7, .ifCond .eq 7, 3), (10, .iload_n 2, 1), (11, .goto 22, 3), (14, .aload_n 0, 1), (15, .getfield 67, 3), (18, .iload_n 1, 1), (19, .aaload, 1), (20, .iconst 0, 1), (21, .aload_n 0, 1), (22, .getfield 67, 3), (25, .iload_n 1, 1), (26, .aaload, 1), (27, .getfield 86, 3), (30, .invokevirtual 269, 3), (33, .ireturn, 1)]
theorem dtX6_word : dchk cX6_word tX6_word = true := by decide +kernel
def tX6_value : List (Nat × Instr × Nat) := [(0, .aload_n 0, 1), (1, .iload_n 1, 1), (2, .invokevirtual 246, 3), (5, .istore_n 2, 1), (6, .iload_n 2, 1), (7, .ifCond .eq 5, 3), (10, .iload_n 2, 1), (11, .ireturn, 1), (12, .aload_n 0, 1), (13, .getfield 67, 3), (16, .iload_n 1, 1), (17, .aaload, 1), (18, .iconst 0, 1), (19, .invokevirtual 232, 3), (22, .bipush 45, 2), (24, .if_icmp .ne 7, 3), (27, .iconst 1, 1), (28, .goto 4, 3), (31, .iconst 0, 1), (32, .istore_n 3, 1), (33, .aload_n 0, 1), (34, .getfield 67, 3), (37, .iload_n 1, 1), (38, .aaload, 1), (39, .iload_n 3, 1), (40, .ifCond .eq 7, 3), (43, .iconst 1, 1), (44, .goto 4, 3), (47, .iconst 0, 1), (48, .aload_n 0, 1), (49, .getfield 67, 3), (52, .iload_n 1, 1), (53, .aaload, 1), (54, .getfield 86, 3), (57, .iconst 4, 1), (58, .invokevirtual 272, 3), (61, .istore 4, 2), (63, .iload 4, 2), (65, .iconst (-1), 1), (66, .if_icmp .ne 7, 3), (69, .ldc_w 275, 3), (72, .ireturn, 1), (73, .iload_n 3, 1), (74, .ifCond .eq 9, 3), (77, .iload 4, 2), (79, .ineg, 1), (80, .goto 5, 3), (83, .iload 4, 2), (85, .ireturn, 1)]
theorem dtX6_value : dchk cX6_value tX6_value = true := by decide +kernel
def tX6_drop : List (Nat × Instr × Nat) := [(0, .aload_n 0, 1), (1, .iload_n 1, 1), (2, .invokevirtual 246, 3), (5, .istore_n 2, 1), (6, .iload_n 2, 1), (7, .ifCond .eq 5, 3), (10, .iload_n 2, 1), (11, .ireturn, 1), (12, .aload_n 0, 1), (13, .getfield 71, 3), (16, .iload_n 1, 1), (17, .iconst 0, 1), (18, .bastore, 1), (19, .aload_n 0, 1), (20, .getfield 67, 3), (23, .iload_n 1, 1), (24, .aaload, 1), (25, .getfield 86, 3), (28, .ireturn, 1)]
theorem dtX6_drop : dchk cX6_drop tX6_drop = true := by decide +kernel
def tX6_reckonAnew : List (Nat × Instr × Nat) := [(0, .aload_n 0, 1), (1, .getfield 50, 3), (4, .aload_n 0, 1), (5, .getfield 28, 3), (8, .getfield 90, 3), (11, .invokevirtual 194, 3), (14, .aload_n 0, 1), (15, .getfield 50, 3), (18, .aload_n 0, 1), (19, .getfield 64, 3), (22, .invokevirtual 276, 3), (25, .return_, 1)]
theorem dtX6_reckonAnew : dchk cX6_reckonAnew tX6_reckonAnew = true := by decide +kernel
def tX6_refusalOfRun : List (Nat × Instr × Nat) := [(0, .aload_n 0, 1), (1, .getfield 28, 3), (4, .getfield 90, 3), (7, .iload_n 1, 1), (8, .invokevirtual 126, 3), (11, .ifCond .ne 6, 3), (14, .ldc 129, 2), (16, .ireturn, 1), (17, .iload_n 2, 1), (18, .invokestatic 130, 3), (21, .ifCond .eq 19, 3), (24, .iload_n 3, 1), (25, .bipush (-40), 2), (27, .if_icmp .lt 13, 3), (30, .iload_n 3, 1), (31, .bipush 40, 2), (33, .if_icmp .gt 7, 3), (36, .iconst 0, 1), (37, .goto 5, 3), (40, .ldc 77, 2), (42, .ireturn, 1)]
theorem dtX6_refusalOfRun : dchk cX6_refusalOfRun tX6_refusalOfRun = true := by decide +kernel
def tX6_refusalOfLabel : List (Nat × Instr × Nat) := [(0, .iload_n 1, 1), (1, .invokestatic 236, 3), (4, .ifCond .ne 6, 3), (7, .ldc 129, 2), (9, .ireturn, 1), (10, .aload_n 0, 1), (11, .getfield 71, 3), (14, .iload_n 1, 1), (15, .baload, 1), (16, .ifCond .eq 7, 3), (19, .iconst 0, 1), (20, .goto 5, 3), (23, .ldc 239, 2), (25, .ireturn, 1)]
theorem dtX6_refusalOfLabel : dchk cX6_refusalOfLabel tX6_refusalOfLabel = true := by decide +kernel
def tX6_refusalOfTwo : List (Nat × Instr × Nat) := [(0, .iload_n 1, 1), (1, .invokestatic 236, 3), (4, .ifCond .eq 10, 3), (7, .iload_n 2, 1), (8, .invokestatic 236, 3), (11, .ifCond .ne 6, 3), (14, .ldc 129, 2), (16, .ireturn, 1), (17, .aload_n 0, 1), (18, .getfield 71, 3), (21, .iload_n 1, 1), (22, .baload, 1), (23, .ifCond .eq 16, 3), (26, .aload_n 0, 1), (27, .getfield 71, 3), (30, .iload_n 2, 1), (31, .baload, 1), (32, .ifCond .eq 7, 3), (35, .iconst 0, 1), (36, .goto 5, 3), (39, .ldc 239, 2), (41, .ireturn, 1)]
theorem dtX6_refusalOfTwo : dchk cX6_refusalOfTwo tX6_refusalOfTwo = true := by decide +kernel
def tX6_lettersOfLabels : List (Nat × Instr × Nat) := [(0, .iconst 0, 1), (1, .istore_n 1, 1), (2, .iconst 0, 1), (3, .istore_n 2, 1), (4, .iload_n 2, 1), (5, .iconst 3, 1), (6, .if_icmp .ge 30, 3), (9, .aload_n 0, 1), (10, .getfield 71, 3), (13, .iload_n 2, 1), (14, .baload, 1), (15, .ifCond .eq 15, 3), (18, .iload_n 1, 1), (19, .aload_n 0, 1), (20, .getfield 67, 3), (23, .iload_n 2, 1), (24, .aaload, 1), (25, .getfield 86, 3), (28, .iadd, 1), (29, .istore_n 1, 1), (30, .iinc 2 1, 3), (33, .goto (-29), 3), (36, .iload_n 1, 1), (37, .ireturn, 1)]
theorem dtX6_lettersOfLabels : dchk cX6_lettersOfLabels tX6_lettersOfLabels = true := by decide +kernel
def tX6_isLabel : List (Nat × Instr × Nat) := [(0, .iload_n 0, 1), (1, .ifCond .lt 12, 3), (4, .iload_n 0, 1), (5, .iconst 3, 1), (6, .if_icmp .ge 7, 3), (9, .iconst 1, 1), (10, .goto 4, 3), (13, .iconst 0, 1), (14, .ireturn, 1)]
theorem dtX6_isLabel : dchk cX6_isLabel tX6_isLabel = true := by decide +kernel
def tX6_isWay : List (Nat × Instr × Nat) := [(0, .iload_n 0, 1), (1, .ifCond .eq 8, 3), (4, .iload_n 0, 1), (5, .iconst 1, 1), (6, .if_icmp .ne 7, 3), (9, .iconst 1, 1), (10, .goto 4, 3), (13, .iconst 0, 1), (14, .ireturn, 1)]
theorem dtX6_isWay : dchk cX6_isWay tX6_isWay = true := by decide +kernel
def tX6_isPart : List (Nat × Instr × Nat) := [(0, .iload_n 0, 1), (1, .ifCond .eq 8, 3), (4, .iload_n 0, 1), (5, .iconst 1, 1), (6, .if_icmp .ne 7, 3), (9, .iconst 1, 1), (10, .goto 4, 3), (13, .iconst 0, 1), (14, .ireturn, 1)]
theorem dtX6_isPart : dchk cX6_isPart tX6_isPart = true := by decide +kernel
def tX6_partOf : List (Nat × Instr × Nat) := [(0, .iload_n 0, 1), (1, .invokestatic 279, 3), (4, .iload_n 1, 1), (5, .invokestatic 284, 3), (8, .istore_n 3, 1), (9, .iload_n 3, 1), (10, .iconst 1, 1), (11, .if_icmp .ge 5, 3), (14, .iconst 0, 1), (15, .ireturn, 1), (16, .iload_n 2, 1), (17, .ifCond .ne 9, 3), (20, .iload_n 0, 1), (21, .iload_n 3, 1), (22, .idiv, 1), (23, .goto 6, 3), (26, .iload_n 1, 1), (27, .iload_n 3, 1), (28, .idiv, 1), (29, .ireturn, 1)]
theorem dtX6_partOf : dchk cX6_partOf tX6_partOf = true := by decide +kernel
def tX6_greatestDivisor : List (Nat × Instr × Nat) := [(0, .iload_n 0, 1), (1, .istore_n 2, 1), (2, .iload_n 1, 1), (3, .istore_n 3, 1), (4, .iconst 0, 1), (5, .istore 4, 2), (7, .iload 4, 2), (9, .bipush 64, 2), (11, .if_icmp .ge 23, 3), (14, .iload_n 3, 1), (15, .ifCond .eq 19, 3), (18, .iload_n 2, 1), (19, .iload_n 3, 1), (20, .irem, 1), (21, .istore 5, 2), (23, .iload_n 3, 1), (24, .istore_n 2, 1), (25, .iload 5, 2), (27, .istore_n 3, 1), (28, .iinc 4 1, 3), (31, .goto (-24), 3), (34, .iload_n 2, 1), (35, .ireturn, 1)]
theorem dtX6_greatestDivisor : dchk cX6_greatestDivisor tX6_greatestDivisor = true := by decide +kernel
def tX6_nearestLesser : List (Nat × Instr × Nat) := [(0, .iload_n 1, 1), (1, .iconst 1, 1), (2, .if_icmp .ge 7, 3), (5, .iconst 0, 1), (6, .goto 15, 3), (9, .iload_n 1, 1), (10, .iconst 2, 1), (11, .iload_n 0, 1), (12, .imul, 1), (13, .isub, 1), (14, .iconst 2, 1), (15, .iload_n 1, 1), (16, .imul, 1), (17, .invokestatic 287, 3), (20, .ineg, 1), (21, .ireturn, 1)]
theorem dtX6_nearestLesser : dchk cX6_nearestLesser tX6_nearestLesser = true := by decide +kernel
def tX6_isDigit : List (Nat × Instr × Nat) := [(0, .iload_n 0, 1), (1, .bipush 48, 2), (3, .if_icmp .lt 13, 3), (6, .iload_n 0, 1), (7, .bipush 57, 2), (9, .if_icmp .gt 7, 3), (12, .iconst 1, 1), (13, .goto 4, 3), (16, .iconst 0, 1), (17, .ireturn, 1)]
theorem dtX6_isDigit : dchk cX6_isDigit tX6_isDigit = true := by decide +kernel
def tX6_isSmallLetter : List (Nat × Instr × Nat) := [(0, .iload_n 0, 1), (1, .bipush 97, 2), (3, .if_icmp .lt 13, 3), (6, .iload_n 0, 1), (7, .bipush 122, 2), (9, .if_icmp .gt 7, 3), (12, .iconst 1, 1), (13, .goto 4, 3), (16, .iconst 0, 1), (17, .ireturn, 1)]
theorem dtX6_isSmallLetter : dchk cX6_isSmallLetter tX6_isSmallLetter = true := by decide +kernel
def tX7_init_0 : List (Nat × Instr × Nat) := [(0, .aload_n 0, 1), (1, .invokespecial 1, 3), (4, .aload_n 0, 1), (5, .iconst 3, 1), (6, .putfield 7, 3), (9, .aload_n 0, 1), (10, .bipush 20, 2), (12, .putfield 13, 3), (15, .aload_n 0, 1), (16, .sipush 1404, 3), (19, .newarray .int, 2), (21, .putfield 16, 3), (24, .aload_n 0, 1), (25, .iconst 2, 1), (26, .newarray .boolean, 2), (28, .putfield 20, 3), (31, .aload_n 0, 1), (32, .sipush 200, 3), (35, .newarray .int, 2), (37, .putfield 24, 3), (40, .aload_n 0, 1), (41, .bipush 16, 2), (43, .newarray .int, 2), (45, .dup, 1), (46, .iconst 0, 1), (47, .bipush 117, 2), (49, .iastore, 1), (50, .dup, 1), (51, .iconst 1, 1), (52, .bipush 112, 2), (54, .iastore, 1), (55, .dup, 1), (56, .iconst 2, 1), (57, .bipush 32, 2), (59, .iastore, 1), (60, .dup, 1), (61, .iconst 3, 1), (62, .bipush 100, 2), (64, .iastore, 1), (65, .dup, 1), (66, .iconst 4, 1), (67, .bipush 111, 2), (69, .iastore, 1), (70, .dup, 1), (71, .iconst 5, 1), (72, .bipush 119, 2), (74, .iastore, 1), (75, .dup, 1), (76, .bipush 6, 2), (78, .bipush 110, 2), (80, .iastore, 1), (81, .dup, 1), (82, .bipush 7, 2), (84, .bipush 32, 2), (86, .iastore, 1), (87, .dup, 1), (88, .bipush 8, 2), (90, .bipush 97, 2), (92, .iastore, 1), (93, .dup, 1), (94, .bipush 9, 2), (96, .bipush 120, 2), (98, .iastore, 1), (99, .dup, 1)]
theorem dtX7_init_0 : dchk cX7_init tX7_init_0 = true := by decide +kernel
def tX7_init_1 : List (Nat × Instr × Nat) := [(100, .bipush 10, 2), (102, .bipush 105, 2), (104, .iastore, 1), (105, .dup, 1), (106, .bipush 11, 2), (108, .bipush 115, 2), (110, .iastore, 1), (111, .dup, 1), (112, .bipush 12, 2), (114, .bipush 32, 2), (116, .iastore, 1), (117, .dup, 1), (118, .bipush 13, 2), (120, .bipush 97, 2), (122, .iastore, 1), (123, .dup, 1), (124, .bipush 14, 2), (126, .bipush 116, 2), (128, .iastore, 1), (129, .dup, 1), (130, .bipush 15, 2), (132, .bipush 32, 2), (134, .iastore, 1), (135, .putfield 27, 3), (138, .aload_n 0, 1), (139, .bipush 8, 2), (141, .newarray .int, 2), (143, .putfield 30, 3), (146, .aload_n 0, 1), (147, .bipush 8, 2), (149, .newarray .int, 2), (151, .putfield 33, 3), (154, .aload_n 0, 1), (155, .bipush 8, 2), (157, .newarray .int, 2), (159, .putfield 36, 3), (162, .aload_n 0, 1), (163, .bipush 8, 2), (165, .newarray .int, 2), (167, .putfield 39, 3), (170, .aload_n 0, 1), (171, .bipush 80, 2), (173, .newarray .int, 2), (175, .putfield 42, 3), (178, .aload_n 0, 1), (179, .iconst 3, 1), (180, .newarray .int, 2), (182, .dup, 1), (183, .iconst 0, 1), (184, .iconst (-1), 1), (185, .iastore, 1), (186, .dup, 1), (187, .iconst 1, 1), (188, .iconst (-1), 1), (189, .iastore, 1), (190, .dup, 1), (191, .iconst 2, 1), (192, .iconst (-1), 1), (193, .iastore, 1), (194, .putfield 45, 3), (197, .aload_n 0, 1), (198, .bipush 72, 2), (200, .newarray .int, 2), (202, .putfield 48, 3)]
theorem dtX7_init_1 : dchk cX7_init tX7_init_1 = true := by decide +kernel
def tX7_init_2 : List (Nat × Instr × Nat) := [(205, .aload_n 0, 1), (206, .invokevirtual 51, 3), (209, .return_, 1)]
theorem dtX7_init_2 : dchk cX7_init tX7_init_2 = true := by decide +kernel
def tX7_in : List (Nat × Instr × Nat) := [(0, .lload_n 0, 1), (1, .lload_n 2, 1), (2, .lcmp, 1), (3, .ifCond .lt 14, 3), (6, .lload_n 0, 1), (7, .lload 4, 2), (9, .lcmp, 1), (10, .ifCond .gt 7, 3), (13, .iconst 1, 1), (14, .goto 4, 3), (17, .iconst 0, 1), (18, .ireturn, 1)]
theorem dtX7_in : dchk cX7_in tX7_in = true := by decide +kernel
def tX7_copy : List (Nat × Instr × Nat) := [(0, .iconst 0, 1), (1, .istore_n 3, 1), (2, .iload_n 3, 1), (3, .bipush 117, 2), (5, .if_icmp .ge 25, 3), (8, .aload_n 0, 1), (9, .getfield 16, 3), (12, .iload_n 2, 1), (13, .iload_n 3, 1), (14, .iadd, 1), (15, .aload_n 0, 1), (16, .getfield 16, 3), (19, .iload_n 1, 1), (20, .iload_n 3, 1), (21, .iadd, 1), (22, .iaload, 1), (23, .iastore, 1), (24, .iinc 3 1, 3), (27, .goto (-25), 3), (30, .return_, 1)]
theorem dtX7_copy : dchk cX7_copy tX7_copy = true := by decide +kernel
def tX7_rests : List (Nat × Instr × Nat) := [(0, .aload_n 0, 1), (1, .iconst 0, 1), (2, .invokevirtual 54, 3), (5, .aload_n 0, 1), (6, .getfield 16, 3), (9, .bipush 112, 2), (11, .iconst 0, 1), (12, .iastore, 1), (13, .aload_n 0, 1), (14, .getfield 16, 3), (17, .bipush 113, 2), (19, .aload_n 0, 1), (20, .iconst 0, 1), (21, .invokevirtual 58, 3), (24, .iastore, 1), (25, .aload_n 0, 1), (26, .getfield 16, 3), (29, .bipush 114, 2), (31, .iconst 0, 1), (32, .iastore, 1), (33, .aload_n 0, 1), (34, .getfield 16, 3), (37, .bipush 115, 2), (39, .iconst 0, 1), (40, .iastore, 1), (41, .aload_n 0, 1), (42, .getfield 16, 3), (45, .bipush 116, 2), (47, .iconst 1, 1), (48, .iastore, 1), (49, .aload_n 0, 1), (50, .iconst 0, 1), (51, .putfield 62, 3), (54, .iconst 0, 1), (55, .istore_n 1, 1), (56, .iload_n 1, 1), (57, .iconst 2, 1), (58, .if_icmp .ge 16, 3), (61, .aload_n 0, 1), (62, .getfield 20, 3), (65, .iload_n 1, 1), (66, .iconst 0, 1), (67, .bastore, 1), (68, .iinc 1 1, 3), (71, .goto (-15), 3), (74, .iconst 0, 1), (75, .istore_n 1, 1), (76, .iload_n 1, 1), (77, .iconst 3, 1), (78, .if_icmp .ge 16, 3), (81, .aload_n 0, 1), (82, .getfield 45, 3), (85, .iload_n 1, 1), (86, .iconst (-1), 1), (87, .iastore, 1), (88, .iinc 1 1, 3), (91, .goto (-15), 3), (94, .return_, 1)]
theorem dtX7_rests : dchk cX7_rests tX7_rests = true := by decide +kernel
def tX7_isPoint : List (Nat × Instr × Nat) := [(0, .iload_n 1, 1), (1, .i2l, 1), (2, .lconst 0, 1), (3, .aload_n 0, 1), (4, .getfield 7, 3), (7, .iconst 1, 1), (8, .isub, 1), (9, .i2l, 1), (10, .invokestatic 65, 3), (13, .ireturn, 1)]
theorem dtX7_isPoint : dchk cX7_isPoint tX7_isPoint = true := by decide +kernel
def tX7_isWay : List (Nat × Instr × Nat) := [(0, .iload_n 0, 1), (1, .i2l, 1), (2, .lconst 0, 1), (3, .lconst 1, 1), (4, .invokestatic 65, 3), (7, .ireturn, 1)]
theorem dtX7_isWay : dchk cX7_isWay tX7_isWay = true := by decide +kernel
def tX7_isErr : List (Nat × Instr × Nat) := [(0, .iload_n 0, 1), (1, .i2l, 1), (2, .ldc2_w 69, 3), (5, .ldc2_w 71, 3), (8, .invokestatic 65, 3), (11, .ireturn, 1)]
theorem dtX7_isErr : dchk cX7_isErr tX7_isErr = true := by decide +kernel
def tX7_adds_0 : List (Nat × Instr × Nat) := [(0, .iconst 2, 1), (1, .iload_n 2, 1), (2, .imul, 1), (3, .iload_n 3, 1), (4, .iadd, 1), (5, .istore 5, 2), (7, .aload_n 0, 1), (8, .getfield 16, 3), (11, .iload_n 1, 1), (12, .iconst 0, 1), (13, .iadd, 1), (14, .iload 5, 2), (16, .iadd, 1), (17, .iaload, 1), (18, .bipush 6, 2), (20, .if_icmp .ne 72, 3), (23, .iconst 1, 1), (24, .istore 6, 2), (26, .iload 6, 2), (28, .bipush 6, 2), (30, .if_icmp .ge 47, 3), (33, .aload_n 0, 1), (34, .getfield 16, 3), (37, .iload_n 1, 1), (38, .bipush 16, 2), (40, .iadd, 1), (41, .bipush 6, 2), (43, .iload 5, 2), (45, .imul, 1), (46, .iadd, 1), (47, .iload 6, 2), (49, .iadd, 1), (50, .iconst 1, 1), (51, .isub, 1), (52, .aload_n 0, 1), (53, .getfield 16, 3), (56, .iload_n 1, 1), (57, .bipush 16, 2), (59, .iadd, 1), (60, .bipush 6, 2), (62, .iload 5, 2), (64, .imul, 1), (65, .iadd, 1), (66, .iload 6, 2), (68, .iadd, 1), (69, .iaload, 1), (70, .iastore, 1), (71, .iinc 6 1, 3), (74, .goto (-48), 3), (77, .aload_n 0, 1), (78, .getfield 16, 3), (81, .iload_n 1, 1), (82, .iconst 0, 1), (83, .iadd, 1), (84, .iload 5, 2), (86, .iadd, 1), (87, .dup2, 1), (88, .iaload, 1), (89, .iconst 1, 1), (90, .isub, 1), (91, .iastore, 1), (92, .aload_n 0, 1), (93, .getfield 16, 3), (96, .iload_n 1, 1)]
theorem dtX7_adds_0 : dchk cX7_adds tX7_adds_0 = true := by decide +kernel
def tX7_adds_1 : List (Nat × Instr × Nat) := [(97, .bipush 16, 2), (99, .iadd, 1), (100, .bipush 6, 2), (102, .iload 5, 2), (104, .imul, 1), (105, .iadd, 1), (106, .aload_n 0, 1), (107, .getfield 16, 3), (110, .iload_n 1, 1), (111, .iconst 0, 1), (112, .iadd, 1), (113, .iload 5, 2), (115, .iadd, 1), (116, .iaload, 1), (117, .iadd, 1), (118, .iload 4, 2), (120, .iastore, 1), (121, .aload_n 0, 1), (122, .getfield 16, 3), (125, .iload_n 1, 1), (126, .iconst 0, 1), (127, .iadd, 1), (128, .iload 5, 2), (130, .iadd, 1), (131, .dup2, 1), (132, .iaload, 1), (133, .iconst 1, 1), (134, .iadd, 1), (135, .iastore, 1), (136, .return_, 1)]
theorem dtX7_adds_1 : dchk cX7_adds tX7_adds_1 = true := by decide +kernel
def tX7_noRuns : List (Nat × Instr × Nat) := [(0, .iconst 0, 1), (1, .istore_n 1, 1), (2, .iload_n 1, 1), (3, .bipush 112, 2), (5, .if_icmp .ge 16, 3), (8, .aload_n 0, 1), (9, .getfield 16, 3), (12, .iload_n 1, 1), (13, .iconst 0, 1), (14, .iastore, 1), (15, .iinc 1 1, 3), (18, .goto (-16), 3), (21, .return_, 1)]
theorem dtX7_noRuns : dchk cX7_noRuns tX7_noRuns = true := by decide +kernel
def tX7_write : List (Nat × Instr × Nat) := [(0, .iload_n 1, 1), (1, .i2l, 1), (2, .lconst 0, 1), (3, .ldc2_w 73, 3), (6, .invokestatic 65, 3), (9, .ifCond .ne 6, 3), (12, .ldc 75, 2), (14, .ireturn, 1), (15, .aload_n 0, 1), (16, .getfield 76, 3), (19, .sipush 200, 3), (22, .if_icmp .ne 6, 3), (25, .ldc 79, 2), (27, .ireturn, 1), (28, .aload_n 0, 1), (29, .getfield 24, 3), (32, .aload_n 0, 1), (33, .getfield 76, 3), (36, .iload_n 1, 1), (37, .iastore, 1), (38, .aload_n 0, 1), (39, .dup, 1), (40, .getfield 76, 3), (43, .iconst 1, 1), (44, .iadd, 1), (45, .putfield 76, 3), (48, .aload_n 0, 1), (49, .getfield 76, 3), (52, .ireturn, 1)]
theorem dtX7_write : dchk cX7_write tX7_write = true := by decide +kernel
def tX7_erase : List (Nat × Instr × Nat) := [(0, .aload_n 0, 1), (1, .getfield 76, 3), (4, .istore_n 1, 1), (5, .aload_n 0, 1), (6, .iconst 0, 1), (7, .putfield 76, 3), (10, .iload_n 1, 1), (11, .ireturn, 1)]
theorem dtX7_erase : dchk cX7_erase tX7_erase = true := by decide +kernel
def tX7_isSmall : List (Nat × Instr × Nat) := [(0, .iload_n 0, 1), (1, .i2l, 1), (2, .ldc2_w 80, 3), (5, .ldc2_w 82, 3), (8, .invokestatic 65, 3), (11, .ireturn, 1)]
theorem dtX7_isSmall : dchk cX7_isSmall tX7_isSmall = true := by decide +kernel
def tX7_isDigit : List (Nat × Instr × Nat) := [(0, .iload_n 0, 1), (1, .i2l, 1), (2, .ldc2_w 84, 3), (5, .ldc2_w 86, 3), (8, .invokestatic 65, 3), (11, .ireturn, 1)]
theorem dtX7_isDigit : dchk cX7_isDigit tX7_isDigit = true := by decide +kernel
def tX7_nextToken_0 : List (Nat × Instr × Nat) := [(0, .aload_n 0, 1), (1, .aload_n 0, 1), (2, .getfield 88, 3), (5, .putfield 91, 3), (8, .aload_n 0, 1), (9, .getfield 91, 3), (12, .aload_n 0, 1), (13, .getfield 76, 3), (16, .if_icmp .ge 30, 3), (19, .aload_n 0, 1), (20, .getfield 24, 3), (23, .aload_n 0, 1), (24, .getfield 91, 3), (27, .iaload, 1), (28, .bipush 32, 2), (30, .if_icmp .ne 16, 3), (33, .aload_n 0, 1), (34, .dup, 1), (35, .getfield 91, 3), (38, .iconst 1, 1), (39, .iadd, 1), (40, .putfield 91, 3), (43, .goto (-35), 3), (46, .aload_n 0, 1), (47, .aload_n 0, 1), (48, .getfield 91, 3), (51, .putfield 88, 3), (54, .aload_n 0, 1), (55, .getfield 91, 3), (58, .aload_n 0, 1), (59, .getfield 76, 3), (62, .if_icmp .ge 91, 3), (65, .aload_n 0, 1), (66, .getfield 24, 3), (69, .aload_n 0, 1), (70, .getfield 91, 3), (73, .iaload, 1), (74, .istore_n 1, 1), (75, .aload_n 0, 1), (76, .dup, 1), (77, .getfield 88, 3), (80, .iconst 1, 1), (81, .iadd, 1), (82, .putfield 88, 3), (85, .aload_n 0, 1), (86, .getfield 88, 3), (89, .aload_n 0, 1), (90, .getfield 76, 3), (93, .if_icmp .ge 60, 3), (96, .iload_n 1, 1), (97, .invokestatic 94, 3), (100, .ifCond .eq 18, 3), (103, .aload_n 0, 1), (104, .getfield 24, 3), (107, .aload_n 0, 1), (108, .getfield 88, 3), (111, .iaload, 1), (112, .invokestatic 94, 3), (115, .ifCond .ne 25, 3), (118, .iload_n 1, 1), (119, .invokestatic 98, 3), (122, .ifCond .eq 31, 3), (125, .aload_n 0, 1), (126, .getfield 24, 3)]
theorem dtX7_nextToken_0 : dchk cX7_nextToken tX7_nextToken_0 = true := by decide +kernel
def tX7_nextToken_1 : List (Nat × Instr × Nat) := [(129, .aload_n 0, 1), (130, .getfield 88, 3), (133, .iaload, 1), (134, .invokestatic 98, 3), (137, .ifCond .eq 16, 3), (140, .aload_n 0, 1), (141, .dup, 1), (142, .getfield 88, 3), (145, .iconst 1, 1), (146, .iadd, 1), (147, .putfield 88, 3), (150, .goto (-65), 3), (153, .return_, 1)]
theorem dtX7_nextToken_1 : dchk cX7_nextToken tX7_nextToken_1 = true := by decide +kernel
def tX7_wordHere_0 : List (Nat × Instr × Nat) := [(0, .iconst (-1), 1), (1, .istore_n 1, 1), (2, .iconst 0, 1), (3, .istore_n 2, 1), (4, .iconst 0, 1), (5, .istore_n 3, 1), (6, .iload_n 3, 1), (7, .iconst 4, 1), (8, .if_icmp .ge 132, 3), (11, .iconst 0, 1), (12, .istore 4, 2), (14, .aload_n 0, 1), (15, .getfield 91, 3), (18, .aload_n 0, 1), (19, .getfield 76, 3), (22, .if_icmp .ge 7, 3), (25, .iconst 1, 1), (26, .goto 4, 3), (29, .iconst 0, 1), (30, .istore 5, 2), (32, .aload_n 0, 1), (33, .getfield 27, 3), (36, .iload_n 2, 1), (37, .iload 4, 2), (39, .iadd, 1), (40, .iaload, 1), (41, .bipush 32, 2), (43, .if_icmp .eq 59, 3), (46, .iload 5, 2), (48, .ifCond .eq 45, 3), (51, .aload_n 0, 1), (52, .getfield 91, 3), (55, .iload 4, 2), (57, .iadd, 1), (58, .aload_n 0, 1), (59, .getfield 88, 3), (62, .if_icmp .ge 31, 3), (65, .aload_n 0, 1), (66, .getfield 24, 3), (69, .aload_n 0, 1), (70, .getfield 91, 3), (73, .iload 4, 2), (75, .iadd, 1), (76, .iaload, 1), (77, .aload_n 0, 1), (78, .getfield 27, 3), (81, .iload_n 2, 1), (82, .iload 4, 2), (84, .iadd, 1), (85, .iaload, 1), (86, .if_icmp .ne 7, 3), (89, .iconst 1, 1), (90, .goto 4, 3), (93, .iconst 0, 1), (94, .istore 5, 2), (96, .iinc 4 1, 3), (99, .goto (-67), 3), (102, .iload 5, 2), (104, .ifCond .eq 21, 3), (107, .aload_n 0, 1), (108, .getfield 88, 3), (111, .aload_n 0, 1), (112, .getfield 91, 3), (115, .isub, 1)]
theorem dtX7_wordHere_0 : dchk cX7_wordHere tX7_wordHere_0 = true := by decide +kernel
def tX7_wordHere_1 : List (Nat × Instr × Nat) := [(116, .iload 4, 2), (118, .if_icmp .ne 7, 3), (121, .iload_n 3, 1), (122, .goto 4, 3), (125, .iload_n 1, 1), (126, .istore_n 1, 1), (127, .iload_n 2, 1), (128, .iload 4, 2), (130, .iconst 1, 1), (131, .iadd, 1), (132, .iadd, 1), (133, .istore_n 2, 1), (134, .iinc 3 1, 3), (137, .goto (-131), 3), (140, .iload_n 1, 1), (141, .ireturn, 1)]
theorem dtX7_wordHere_1 : dchk cX7_wordHere tX7_wordHere_1 = true := by decide +kernel
def tX7_takesNumber_0 : List (Nat × Instr × Nat) := [(0, .aload_n 0, 1), (1, .getfield 91, 3), (4, .aload_n 0, 1), (5, .getfield 76, 3), (8, .if_icmp .eq 31, 3), (11, .aload_n 0, 1), (12, .getfield 24, 3), (15, .aload_n 0, 1), (16, .getfield 91, 3), (19, .iaload, 1), (20, .invokestatic 98, 3), (23, .ifCond .eq 16, 3), (26, .aload_n 0, 1), (27, .getfield 88, 3), (30, .aload_n 0, 1), (31, .getfield 91, 3), (34, .isub, 1), (35, .iconst 2, 1), (36, .if_icmp .le 5, 3), (39, .iconst 0, 1), (40, .ireturn, 1), (41, .aload_n 0, 1), (42, .getfield 24, 3), (45, .aload_n 0, 1), (46, .getfield 91, 3), (49, .iaload, 1), (50, .bipush 48, 2), (52, .isub, 1), (53, .istore_n 3, 1), (54, .aload_n 0, 1), (55, .getfield 88, 3), (58, .aload_n 0, 1), (59, .getfield 91, 3), (62, .isub, 1), (63, .iconst 2, 1), (64, .if_icmp .ne 25, 3), (67, .bipush 10, 2), (69, .iload_n 3, 1), (70, .imul, 1), (71, .aload_n 0, 1), (72, .getfield 24, 3), (75, .aload_n 0, 1), (76, .getfield 91, 3), (79, .iconst 1, 1), (80, .iadd, 1), (81, .iaload, 1), (82, .iadd, 1), (83, .bipush 48, 2), (85, .isub, 1), (86, .goto 4, 3), (89, .iload_n 3, 1), (90, .istore_n 3, 1), (91, .iload_n 3, 1), (92, .i2l, 1), (93, .iload_n 1, 1), (94, .i2l, 1), (95, .iload_n 2, 1), (96, .i2l, 1), (97, .invokestatic 65, 3), (100, .ifCond .ne 5, 3), (103, .iconst 0, 1), (104, .ireturn, 1), (105, .aload_n 0, 1), (106, .iload_n 3, 1)]
theorem dtX7_takesNumber_0 : dchk cX7_takesNumber tX7_takesNumber_0 = true := by decide +kernel
def tX7_takesNumber_1 : List (Nat × Instr × Nat) := [(107, .putfield 101, 3), (110, .aload_n 0, 1), (111, .invokevirtual 104, 3), (114, .iconst 1, 1), (115, .ireturn, 1)]
theorem dtX7_takesNumber_1 : dchk cX7_takesNumber tX7_takesNumber_1 = true := by decide +kernel
def tX7_takesErr : List (Nat × Instr × Nat) := [(0, .aload_n 0, 1), (1, .getfield 91, 3), (4, .aload_n 0, 1), (5, .getfield 76, 3), (8, .if_icmp .ge 21, 3), (11, .aload_n 0, 1), (12, .getfield 24, 3), (15, .aload_n 0, 1), (16, .getfield 91, 3), (19, .iaload, 1), (20, .bipush 45, 2), (22, .if_icmp .ne 7, 3), (25, .iconst 1, 1), (26, .goto 4, 3), (29, .iconst 0, 1), (30, .istore_n 1, 1), (31, .iload_n 1, 1), (32, .ifCond .eq 7, 3), (35, .aload_n 0, 1), (36, .invokevirtual 104, 3), (39, .aload_n 0, 1), (40, .iconst 0, 1), (41, .bipush 40, 2), (43, .invokevirtual 107, 3), (46, .ifCond .ne 5, 3), (49, .iconst 0, 1), (50, .ireturn, 1), (51, .aload_n 0, 1), (52, .iload_n 1, 1), (53, .ifCond .eq 11, 3), (56, .aload_n 0, 1), (57, .getfield 101, 3), (60, .ineg, 1), (61, .goto 7, 3), (64, .aload_n 0, 1), (65, .getfield 101, 3), (68, .putfield 101, 3), (71, .iconst 1, 1), (72, .ireturn, 1)]
theorem dtX7_takesErr : dchk cX7_takesErr tX7_takesErr = true := by decide +kernel
def tX7_takesAxis : List (Nat × Instr × Nat) := [(0, .aload_n 0, 1), (1, .iconst 2, 1), (2, .bipush 8, 2), (4, .invokevirtual 107, 3), (7, .ifCond .ne 5, 3), (10, .iconst 0, 1), (11, .ireturn, 1), (12, .aload_n 0, 1), (13, .getfield 101, 3), (16, .istore_n 1, 1), (17, .aload_n 0, 1), (18, .bipush 10, 2), (20, .bipush 99, 2), (22, .invokevirtual 107, 3), (25, .ifCond .ne 5, 3), (28, .iconst 0, 1), (29, .ireturn, 1), (30, .aload_n 0, 1), (31, .iload_n 1, 1), (32, .putfield 111, 3), (35, .aload_n 0, 1), (36, .getfield 114, 3), (39, .ifCond .eq 20, 3), (42, .aload_n 0, 1), (43, .iload_n 1, 1), (44, .putfield 7, 3), (47, .aload_n 0, 1), (48, .aload_n 0, 1), (49, .getfield 101, 3), (52, .putfield 13, 3), (55, .aload_n 0, 1), (56, .invokevirtual 118, 3), (59, .iconst 1, 1), (60, .ireturn, 1)]
theorem dtX7_takesAxis : dchk cX7_takesAxis tX7_takesAxis = true := by decide +kernel
def tX7_takesRuns : List (Nat × Instr × Nat) := [(0, .iconst 0, 1), (1, .istore_n 2, 1), (2, .iload_n 2, 1), (3, .aload_n 0, 1), (4, .getfield 111, 3), (7, .if_icmp .ge 36, 3), (10, .aload_n 0, 1), (11, .invokevirtual 121, 3), (14, .ifCond .ne 5, 3), (17, .iconst 0, 1), (18, .ireturn, 1), (19, .aload_n 0, 1), (20, .getfield 114, 3), (23, .ifCond .eq 14, 3), (26, .aload_n 0, 1), (27, .iconst 0, 1), (28, .iload_n 2, 1), (29, .iload_n 1, 1), (30, .aload_n 0, 1), (31, .getfield 101, 3), (34, .invokevirtual 125, 3), (37, .iinc 2 1, 3), (40, .goto (-38), 3), (43, .iconst 1, 1), (44, .ireturn, 1)]
theorem dtX7_takesRuns : dchk cX7_takesRuns tX7_takesRuns = true := by decide +kernel
def tX7_takesAt : List (Nat × Instr × Nat) := [(0, .aload_n 0, 1), (1, .iconst 0, 1), (2, .aload_n 0, 1), (3, .getfield 111, 3), (6, .iconst 1, 1), (7, .isub, 1), (8, .invokevirtual 107, 3), (11, .ifCond .ne 5, 3), (14, .iconst 0, 1), (15, .ireturn, 1), (16, .aload_n 0, 1), (17, .getfield 101, 3), (20, .istore_n 1, 1), (21, .aload_n 0, 1), (22, .invokevirtual 129, 3), (25, .istore_n 2, 1), (26, .iload_n 2, 1), (27, .invokestatic 133, 3), (30, .ifCond .ne 5, 3), (33, .iconst 0, 1), (34, .ireturn, 1), (35, .aload_n 0, 1), (36, .invokevirtual 104, 3), (39, .aload_n 0, 1), (40, .invokevirtual 121, 3), (43, .ifCond .ne 5, 3), (46, .iconst 0, 1), (47, .ireturn, 1), (48, .aload_n 0, 1), (49, .getfield 114, 3), (52, .ifCond .eq 14, 3), (55, .aload_n 0, 1), (56, .iconst 0, 1), (57, .iload_n 1, 1), (58, .iload_n 2, 1), (59, .aload_n 0, 1), (60, .getfield 101, 3), (63, .invokevirtual 125, 3), (66, .iconst 1, 1), (67, .ireturn, 1)]
theorem dtX7_takesAt : dchk cX7_takesAt tX7_takesAt = true := by decide +kernel
def tX7_takesClause : List (Nat × Instr × Nat) := [(0, .aload_n 0, 1), (1, .invokevirtual 129, 3), (4, .istore_n 1, 1), (5, .iload_n 1, 1), (6, .ifCond .ge 5, 3), (9, .iconst 0, 1), (10, .ireturn, 1), (11, .aload_n 0, 1), (12, .invokevirtual 104, 3), (15, .iload_n 1, 1), (16, .iconst 2, 1), (17, .if_icmp .ne 10, 3), (20, .aload_n 0, 1), (21, .invokevirtual 136, 3), (24, .goto 20, 3), (27, .iload_n 1, 1), (28, .iconst 3, 1), (29, .if_icmp .ne 10, 3), (32, .aload_n 0, 1), (33, .invokevirtual 139, 3), (36, .goto 8, 3), (39, .aload_n 0, 1), (40, .iload_n 1, 1), (41, .invokevirtual 142, 3), (44, .ireturn, 1)]
theorem dtX7_takesClause : dchk cX7_takesClause tX7_takesClause = true := by decide +kernel
def tX7_reads : List (Nat × Instr × Nat) := [(0, .aload_n 0, 1), (1, .iload_n 1, 1), (2, .putfield 114, 3), (5, .aload_n 0, 1), (6, .iconst 0, 1), (7, .putfield 88, 3), (10, .aload_n 0, 1), (11, .iconst 1, 1), (12, .putfield 145, 3), (15, .aload_n 0, 1), (16, .aload_n 0, 1), (17, .getfield 7, 3), (20, .putfield 111, 3), (23, .aload_n 0, 1), (24, .invokevirtual 104, 3), (27, .aload_n 0, 1), (28, .invokevirtual 148, 3), (31, .istore_n 2, 1), (32, .iload_n 2, 1), (33, .ifCond .eq 69, 3), (36, .aload_n 0, 1), (37, .getfield 91, 3), (40, .aload_n 0, 1), (41, .getfield 76, 3), (44, .if_icmp .ge 58, 3), (47, .aload_n 0, 1), (48, .getfield 145, 3), (51, .bipush 24, 2), (53, .if_icmp .ge 21, 3), (56, .aload_n 0, 1), (57, .getfield 24, 3), (60, .aload_n 0, 1), (61, .getfield 91, 3), (64, .iaload, 1), (65, .bipush 59, 2), (67, .if_icmp .ne 7, 3), (70, .iconst 1, 1), (71, .goto 4, 3), (74, .iconst 0, 1), (75, .istore_n 2, 1), (76, .iload_n 2, 1), (77, .ifCond .eq (-45), 3), (80, .aload_n 0, 1), (81, .invokevirtual 104, 3), (84, .aload_n 0, 1), (85, .invokevirtual 148, 3), (88, .istore_n 2, 1), (89, .aload_n 0, 1), (90, .dup, 1), (91, .getfield 145, 3), (94, .iconst 1, 1), (95, .iadd, 1), (96, .putfield 145, 3), (99, .goto (-67), 3), (102, .iload_n 2, 1), (103, .ireturn, 1)]
theorem dtX7_reads : dchk cX7_reads tX7_reads = true := by decide +kernel
def tX7_fault : List (Nat × Instr × Nat) := [(0, .aload_n 0, 1), (1, .iconst 0, 1), (2, .invokevirtual 151, 3), (5, .ifCond .eq 7, 3), (8, .iconst (-1), 1), (9, .goto 7, 3), (12, .aload_n 0, 1), (13, .getfield 91, 3), (16, .ireturn, 1)]
theorem dtX7_fault : dchk cX7_fault tX7_fault = true := by decide +kernel
def tX7_axis : List (Nat × Instr × Nat) := [(0, .aload_n 0, 1), (1, .iconst 0, 1), (2, .invokevirtual 151, 3), (5, .ifCond .ne 6, 3), (8, .ldc 155, 2), (10, .ireturn, 1), (11, .aload_n 0, 1), (12, .iconst 1, 1), (13, .invokevirtual 151, 3), (16, .istore_n 1, 1), (17, .aload_n 0, 1), (18, .iconst 0, 1), (19, .putfield 76, 3), (22, .aload_n 0, 1), (23, .invokevirtual 51, 3), (26, .iload_n 1, 1), (27, .ifCond .eq 10, 3), (30, .aload_n 0, 1), (31, .getfield 145, 3), (34, .goto 5, 3), (37, .ldc 155, 2), (39, .ireturn, 1)]
theorem dtX7_axis : dchk cX7_axis tX7_axis = true := by decide +kernel
def tX7_minds : List (Nat × Instr × Nat) := [(0, .aload_n 0, 1), (1, .getfield 62, 3), (4, .bipush 8, 2), (6, .if_icmp .ne 51, 3), (9, .iconst 0, 1), (10, .istore_n 1, 1), (11, .iload_n 1, 1), (12, .sipush 819, 3), (15, .if_icmp .ge 32, 3), (18, .aload_n 0, 1), (19, .getfield 16, 3), (22, .sipush 468, 3), (25, .iload_n 1, 1), (26, .iadd, 1), (27, .aload_n 0, 1), (28, .getfield 16, 3), (31, .sipush 468, 3), (34, .iload_n 1, 1), (35, .iadd, 1), (36, .bipush 117, 2), (38, .iadd, 1), (39, .iaload, 1), (40, .iastore, 1), (41, .iinc 1 1, 3), (44, .goto (-33), 3), (47, .aload_n 0, 1), (48, .dup, 1), (49, .getfield 62, 3), (52, .iconst 1, 1), (53, .isub, 1), (54, .putfield 62, 3), (57, .aload_n 0, 1), (58, .iconst 0, 1), (59, .sipush 468, 3), (62, .bipush 117, 2), (64, .aload_n 0, 1), (65, .getfield 62, 3), (68, .imul, 1), (69, .iadd, 1), (70, .invokevirtual 156, 3), (73, .aload_n 0, 1), (74, .dup, 1), (75, .getfield 62, 3), (78, .iconst 1, 1), (79, .iadd, 1), (80, .putfield 62, 3), (83, .return_, 1)]
theorem dtX7_minds : dchk cX7_minds tX7_minds = true := by decide +kernel
def tX7_run : List (Nat × Instr × Nat) := [(0, .aload_n 0, 1), (1, .iload_n 1, 1), (2, .invokevirtual 160, 3), (5, .ifCond .ne 6, 3), (8, .ldc 163, 2), (10, .ireturn, 1), (11, .iload_n 2, 1), (12, .invokestatic 133, 3), (15, .ifCond .eq 10, 3), (18, .iload_n 3, 1), (19, .invokestatic 164, 3), (22, .ifCond .ne 6, 3), (25, .ldc 75, 2), (27, .ireturn, 1), (28, .aload_n 0, 1), (29, .invokevirtual 167, 3), (32, .aload_n 0, 1), (33, .iconst 0, 1), (34, .iload_n 1, 1), (35, .iload_n 2, 1), (36, .iload_n 3, 1), (37, .invokevirtual 125, 3), (40, .aload_n 0, 1), (41, .getfield 16, 3), (44, .iconst 0, 1), (45, .iconst 2, 1), (46, .iload_n 1, 1), (47, .imul, 1), (48, .iadd, 1), (49, .iload_n 2, 1), (50, .iadd, 1), (51, .iaload, 1), (52, .ireturn, 1)]
theorem dtX7_run : dchk cX7_run tX7_run = true := by decide +kernel
def tX7_clear : List (Nat × Instr × Nat) := [(0, .aload_n 0, 1), (1, .iload_n 1, 1), (2, .invokevirtual 160, 3), (5, .ifCond .ne 6, 3), (8, .ldc 163, 2), (10, .ireturn, 1), (11, .iload_n 2, 1), (12, .invokestatic 133, 3), (15, .ifCond .ne 6, 3), (18, .ldc 75, 2), (20, .ireturn, 1), (21, .aload_n 0, 1), (22, .getfield 16, 3), (25, .iconst 0, 1), (26, .iconst 2, 1), (27, .iload_n 1, 1), (28, .imul, 1), (29, .iadd, 1), (30, .iload_n 2, 1), (31, .iadd, 1), (32, .iaload, 1), (33, .istore_n 3, 1), (34, .iload_n 3, 1), (35, .ifCond .ne 6, 3), (38, .ldc 155, 2), (40, .ireturn, 1), (41, .aload_n 0, 1), (42, .invokevirtual 167, 3), (45, .aload_n 0, 1), (46, .getfield 16, 3), (49, .iconst 0, 1), (50, .iconst 2, 1), (51, .iload_n 1, 1), (52, .imul, 1), (53, .iadd, 1), (54, .iload_n 2, 1), (55, .iadd, 1), (56, .iconst 0, 1), (57, .iastore, 1), (58, .iload_n 3, 1), (59, .ireturn, 1)]
theorem dtX7_clear : dchk cX7_clear tX7_clear = true := by decide +kernel
def tX7_undo : List (Nat × Instr × Nat) := [(0, .aload_n 0, 1), (1, .getfield 62, 3), (4, .ifCond .ne 6, 3), (7, .ldc 155, 2), (9, .ireturn, 1), (10, .aload_n 0, 1), (11, .dup, 1), (12, .getfield 62, 3), (15, .iconst 1, 1), (16, .isub, 1), (17, .putfield 62, 3), (20, .aload_n 0, 1), (21, .sipush 468, 3), (24, .bipush 117, 2), (26, .aload_n 0, 1), (27, .getfield 62, 3), (30, .imul, 1), (31, .iadd, 1), (32, .iconst 0, 1), (33, .invokevirtual 156, 3), (36, .aload_n 0, 1), (37, .getfield 62, 3), (40, .ireturn, 1)]
theorem dtX7_undo : dchk cX7_undo tX7_undo = true := by decide +kernel
def tX7_keep : List (Nat × Instr × Nat) := [(0, .iload_n 1, 1), (1, .i2l, 1), (2, .lconst 0, 1), (3, .lconst 1, 1), (4, .invokestatic 65, 3), (7, .ifCond .ne 6, 3), (10, .ldc 163, 2), (12, .ireturn, 1), (13, .aload_n 0, 1), (14, .iconst 0, 1), (15, .sipush 234, 3), (18, .bipush 117, 2), (20, .iload_n 1, 1), (21, .imul, 1), (22, .iadd, 1), (23, .invokevirtual 156, 3), (26, .aload_n 0, 1), (27, .getfield 20, 3), (30, .iload_n 1, 1), (31, .iconst 1, 1), (32, .bastore, 1), (33, .aload_n 0, 1), (34, .getfield 16, 3), (37, .bipush 112, 2), (39, .iaload, 1), (40, .ireturn, 1)]
theorem dtX7_keep : dchk cX7_keep tX7_keep = true := by decide +kernel
def tX7_back : List (Nat × Instr × Nat) := [(0, .iload_n 1, 1), (1, .i2l, 1), (2, .lconst 0, 1), (3, .lconst 1, 1), (4, .invokestatic 65, 3), (7, .ifCond .ne 6, 3), (10, .ldc 163, 2), (12, .ireturn, 1), (13, .aload_n 0, 1), (14, .getfield 20, 3), (17, .iload_n 1, 1), (18, .baload, 1), (19, .ifCond .ne 6, 3), (22, .ldc 155, 2), (24, .ireturn, 1), (25, .aload_n 0, 1), (26, .sipush 234, 3), (29, .bipush 117, 2), (31, .iload_n 1, 1), (32, .imul, 1), (33, .iadd, 1), (34, .iconst 0, 1), (35, .invokevirtual 156, 3), (38, .aload_n 0, 1), (39, .iconst 0, 1), (40, .putfield 62, 3), (43, .aload_n 0, 1), (44, .getfield 16, 3), (47, .bipush 112, 2), (49, .iaload, 1), (50, .ireturn, 1)]
theorem dtX7_back : dchk cX7_back tX7_back = true := by decide +kernel
def tX7_runAt : List (Nat × Instr × Nat) := [(0, .aload_n 0, 1), (1, .iload_n 1, 1), (2, .invokevirtual 160, 3), (5, .ifCond .ne 6, 3), (8, .ldc 163, 2), (10, .ireturn, 1), (11, .iload_n 2, 1), (12, .invokestatic 133, 3), (15, .ifCond .eq 7, 3), (18, .iload_n 3, 1), (19, .ifCond .ge 6, 3), (22, .ldc 75, 2), (24, .ireturn, 1), (25, .iconst 2, 1), (26, .iload_n 1, 1), (27, .imul, 1), (28, .iload_n 2, 1), (29, .iadd, 1), (30, .istore 4, 2), (32, .iload_n 3, 1), (33, .aload_n 0, 1), (34, .getfield 16, 3), (37, .iconst 0, 1), (38, .iload 4, 2), (40, .iadd, 1), (41, .iaload, 1), (42, .if_icmp .ge 21, 3), (45, .aload_n 0, 1), (46, .getfield 16, 3), (49, .bipush 16, 2), (51, .bipush 6, 2), (53, .iload 4, 2), (55, .imul, 1), (56, .iadd, 1), (57, .iload_n 3, 1), (58, .iadd, 1), (59, .iaload, 1), (60, .goto 5, 3), (63, .ldc 170, 2), (65, .ireturn, 1)]
theorem dtX7_runAt : dchk cX7_runAt tX7_runAt = true := by decide +kernel
def tX7_mean : List (Nat × Instr × Nat) := [(0, .iconst 2, 1), (1, .iload_n 2, 1), (2, .imul, 1), (3, .iload_n 3, 1), (4, .iadd, 1), (5, .istore 4, 2), (7, .iconst 0, 1), (8, .istore 5, 2), (10, .iconst 0, 1), (11, .istore 6, 2), (13, .iload 6, 2), (15, .aload_n 0, 1), (16, .getfield 16, 3), (19, .iload_n 1, 1), (20, .iconst 0, 1), (21, .iadd, 1), (22, .iload 4, 2), (24, .iadd, 1), (25, .iaload, 1), (26, .if_icmp .ge 32, 3), (29, .iload 5, 2), (31, .aload_n 0, 1), (32, .getfield 16, 3), (35, .iload_n 1, 1), (36, .bipush 16, 2), (38, .iadd, 1), (39, .bipush 6, 2), (41, .iload 4, 2), (43, .imul, 1), (44, .iadd, 1), (45, .iload 6, 2), (47, .iadd, 1), (48, .iaload, 1), (49, .iadd, 1), (50, .istore 5, 2), (52, .iinc 6 1, 3), (55, .goto (-42), 3), (58, .aload_n 0, 1), (59, .getfield 16, 3), (62, .iload_n 1, 1), (63, .iconst 0, 1), (64, .iadd, 1), (65, .iload 4, 2), (67, .iadd, 1), (68, .iaload, 1), (69, .ifCond .ne 7, 3), (72, .iconst 0, 1), (73, .goto 20, 3), (76, .bipush 60, 2), (78, .iload 5, 2), (80, .imul, 1), (81, .aload_n 0, 1), (82, .getfield 16, 3), (85, .iload_n 1, 1), (86, .iconst 0, 1), (87, .iadd, 1), (88, .iload 4, 2), (90, .iadd, 1), (91, .iaload, 1), (92, .idiv, 1), (93, .ireturn, 1)]
theorem dtX7_mean : dchk cX7_mean tX7_mean = true := by decide +kernel
def tX7_wanted : List (Nat × Instr × Nat) := [(0, .bipush 120, 2), (2, .aload_n 0, 1), (3, .getfield 13, 3), (6, .imul, 1), (7, .iload_n 2, 1), (8, .imul, 1), (9, .aload_n 0, 1), (10, .iload_n 1, 1), (11, .iload_n 2, 1), (12, .iconst 0, 1), (13, .invokevirtual 171, 3), (16, .isub, 1), (17, .aload_n 0, 1), (18, .iload_n 1, 1), (19, .iload_n 2, 1), (20, .iconst 1, 1), (21, .invokevirtual 171, 3), (24, .isub, 1), (25, .ireturn, 1)]
theorem dtX7_wanted : dchk cX7_wanted tX7_wanted = true := by decide +kernel
def tX7_sixtyPlays : List (Nat × Instr × Nat) := [(0, .iconst 0, 1), (1, .istore_n 2, 1), (2, .iconst 0, 1), (3, .istore_n 3, 1), (4, .iload_n 3, 1), (5, .aload_n 0, 1), (6, .getfield 7, 3), (9, .if_icmp .ge 27, 3), (12, .iload_n 2, 1), (13, .aload_n 0, 1), (14, .iload_n 1, 1), (15, .iload_n 3, 1), (16, .iconst 0, 1), (17, .invokevirtual 171, 3), (20, .aload_n 0, 1), (21, .iload_n 1, 1), (22, .iload_n 3, 1), (23, .iconst 1, 1), (24, .invokevirtual 171, 3), (27, .isub, 1), (28, .iadd, 1), (29, .istore_n 2, 1), (30, .iinc 3 1, 3), (33, .goto (-29), 3), (36, .iload_n 2, 1), (37, .ireturn, 1)]
theorem dtX7_sixtyPlays : dchk cX7_sixtyPlays tX7_sixtyPlays = true := by decide +kernel
def tX7_nearest : List (Nat × Instr × Nat) := [(0, .iconst 2, 1), (1, .iload_n 0, 1), (2, .imul, 1), (3, .iload_n 1, 1), (4, .iadd, 1), (5, .iconst 1, 1), (6, .isub, 1), (7, .istore_n 2, 1), (8, .iload_n 2, 1), (9, .iconst 2, 1), (10, .iload_n 1, 1), (11, .imul, 1), (12, .idiv, 1), (13, .iload_n 2, 1), (14, .iconst 2, 1), (15, .iload_n 1, 1), (16, .imul, 1), (17, .irem, 1), (18, .ifCond .ge 7, 3), (21, .iconst 1, 1), (22, .goto 4, 3), (25, .iconst 0, 1), (26, .isub, 1), (27, .ireturn, 1)]
theorem dtX7_nearest : dchk cX7_nearest tX7_nearest = true := by decide +kernel
def tX7_layTable_0 : List (Nat × Instr × Nat) := [(0, .iconst 0, 1), (1, .istore_n 2, 1), (2, .iconst 0, 1), (3, .istore_n 3, 1), (4, .iload_n 3, 1), (5, .aload_n 0, 1), (6, .getfield 7, 3), (9, .if_icmp .ge 117, 3), (12, .aload_n 0, 1), (13, .getfield 36, 3), (16, .iload_n 2, 1), (17, .iconst 1, 1), (18, .iastore, 1), (19, .aload_n 0, 1), (20, .getfield 39, 3), (23, .iload_n 2, 1), (24, .aload_n 0, 1), (25, .iload_n 1, 1), (26, .iload_n 3, 1), (27, .invokevirtual 175, 3), (30, .iastore, 1), (31, .iinc 2 1, 3), (34, .iload_n 2, 1), (35, .iconst 1, 1), (36, .if_icmp .le 84, 3), (39, .aload_n 0, 1), (40, .getfield 39, 3), (43, .iload_n 2, 1), (44, .iconst 1, 1), (45, .isub, 1), (46, .iaload, 1), (47, .aload_n 0, 1), (48, .getfield 36, 3), (51, .iload_n 2, 1), (52, .iconst 2, 1), (53, .isub, 1), (54, .iaload, 1), (55, .imul, 1), (56, .aload_n 0, 1), (57, .getfield 39, 3), (60, .iload_n 2, 1), (61, .iconst 2, 1), (62, .isub, 1), (63, .iaload, 1), (64, .aload_n 0, 1), (65, .getfield 36, 3), (68, .iload_n 2, 1), (69, .iconst 1, 1), (70, .isub, 1), (71, .iaload, 1), (72, .imul, 1), (73, .if_icmp .gt 47, 3), (76, .aload_n 0, 1), (77, .getfield 39, 3), (80, .iload_n 2, 1), (81, .iconst 2, 1), (82, .isub, 1), (83, .dup2, 1), (84, .iaload, 1), (85, .aload_n 0, 1), (86, .getfield 39, 3), (89, .iload_n 2, 1), (90, .iconst 1, 1), (91, .isub, 1)]
theorem dtX7_layTable_0 : dchk cX7_layTable tX7_layTable_0 = true := by decide +kernel
def tX7_layTable_1 : List (Nat × Instr × Nat) := [(92, .iaload, 1), (93, .iadd, 1), (94, .iastore, 1), (95, .aload_n 0, 1), (96, .getfield 36, 3), (99, .iload_n 2, 1), (100, .iconst 2, 1), (101, .isub, 1), (102, .dup2, 1), (103, .iaload, 1), (104, .aload_n 0, 1), (105, .getfield 36, 3), (108, .iload_n 2, 1), (109, .iconst 1, 1), (110, .isub, 1), (111, .iaload, 1), (112, .iadd, 1), (113, .iastore, 1), (114, .iinc 2 (-1), 3), (117, .goto (-83), 3), (120, .iinc 3 1, 3), (123, .goto (-119), 3), (126, .iconst 0, 1), (127, .istore_n 3, 1), (128, .iconst 0, 1), (129, .istore 4, 2), (131, .iload 4, 2), (133, .iload_n 2, 1), (134, .if_icmp .ge 101, 3), (137, .iconst 0, 1), (138, .istore 5, 2), (140, .iload 5, 2), (142, .aload_n 0, 1), (143, .getfield 36, 3), (146, .iload 4, 2), (148, .iaload, 1), (149, .if_icmp .ge 80, 3), (152, .aload_n 0, 1), (153, .getfield 39, 3), (156, .iload 4, 2), (158, .iaload, 1), (159, .bipush 120, 2), (161, .aload_n 0, 1), (162, .getfield 36, 3), (165, .iload 4, 2), (167, .iaload, 1), (168, .imul, 1), (169, .invokestatic 179, 3), (172, .istore 6, 2), (174, .aload_n 0, 1), (175, .getfield 30, 3), (178, .iload_n 3, 1), (179, .iload_n 3, 1), (180, .ifCond .le 29, 3), (183, .iload 6, 2), (185, .aload_n 0, 1), (186, .getfield 30, 3), (189, .iload_n 3, 1), (190, .iconst 1, 1), (191, .isub, 1), (192, .iaload, 1), (193, .if_icmp .gt 16, 3), (196, .aload_n 0, 1), (197, .getfield 30, 3)]
theorem dtX7_layTable_1 : dchk cX7_layTable tX7_layTable_1 = true := by decide +kernel
def tX7_layTable_2 : List (Nat × Instr × Nat) := [(200, .iload_n 3, 1), (201, .iconst 1, 1), (202, .isub, 1), (203, .iaload, 1), (204, .iconst 1, 1), (205, .iadd, 1), (206, .goto 5, 3), (209, .iload 6, 2), (211, .iastore, 1), (212, .aload_n 0, 1), (213, .getfield 33, 3), (216, .iload_n 3, 1), (217, .iload 4, 2), (219, .iastore, 1), (220, .iinc 3 1, 3), (223, .iinc 5 1, 3), (226, .goto (-86), 3), (229, .iinc 4 1, 3), (232, .goto (-101), 3), (235, .aload_n 0, 1), (236, .iload_n 1, 1), (237, .invokevirtual 182, 3), (240, .bipush 60, 2), (242, .aload_n 0, 1), (243, .getfield 7, 3), (246, .imul, 1), (247, .invokestatic 179, 3), (250, .istore 4, 2), (252, .aload_n 0, 1), (253, .iload 4, 2), (255, .ifCond .ge 7, 3), (258, .iconst 0, 1), (259, .goto 5, 3), (262, .iload 4, 2), (264, .putfield 185, 3), (267, .return_, 1)]
theorem dtX7_layTable_2 : dchk cX7_layTable tX7_layTable_2 = true := by decide +kernel
def tX7_firstOf : List (Nat × Instr × Nat) := [(0, .iload_n 1, 1), (1, .istore_n 2, 1), (2, .iload_n 2, 1), (3, .ifCond .le 26, 3), (6, .aload_n 0, 1), (7, .getfield 33, 3), (10, .iload_n 2, 1), (11, .iconst 1, 1), (12, .isub, 1), (13, .iaload, 1), (14, .aload_n 0, 1), (15, .getfield 33, 3), (18, .iload_n 1, 1), (19, .iaload, 1), (20, .if_icmp .ne 9, 3), (23, .iinc 2 (-1), 3), (26, .goto (-24), 3), (29, .iload_n 2, 1), (30, .ireturn, 1)]
theorem dtX7_firstOf : dchk cX7_firstOf tX7_firstOf = true := by decide +kernel
def tX7_missed : List (Nat × Instr × Nat) := [(0, .aload_n 0, 1), (1, .iconst 0, 1), (2, .iload_n 1, 1), (3, .iload_n 2, 1), (4, .invokevirtual 171, 3), (7, .bipush 60, 2), (9, .aload_n 0, 1), (10, .getfield 30, 3), (13, .iload_n 1, 1), (14, .iaload, 1), (15, .aload_n 0, 1), (16, .getfield 13, 3), (19, .iload_n 1, 1), (20, .imul, 1), (21, .isub, 1), (22, .iload_n 2, 1), (23, .iconst 1, 1), (24, .if_icmp .ne 10, 3), (27, .aload_n 0, 1), (28, .getfield 185, 3), (31, .goto 4, 3), (34, .iconst 0, 1), (35, .iadd, 1), (36, .imul, 1), (37, .iadd, 1), (38, .ireturn, 1)]
theorem dtX7_missed : dchk cX7_missed tX7_missed = true := by decide +kernel
def tX7_part : List (Nat × Instr × Nat) := [(0, .iload_n 1, 1), (1, .ifCond .ge 8, 3), (4, .iload_n 1, 1), (5, .ineg, 1), (6, .goto 4, 3), (9, .iload_n 1, 1), (10, .istore 4, 2), (12, .iload_n 2, 1), (13, .istore 5, 2), (15, .iload 5, 2), (17, .ifCond .eq 21, 3), (20, .iload 4, 2), (22, .iload 5, 2), (24, .irem, 1), (25, .istore 6, 2), (27, .iload 5, 2), (29, .istore 4, 2), (31, .iload 6, 2), (33, .istore 5, 2), (35, .goto (-20), 3), (38, .iload_n 3, 1), (39, .ifCond .ne 10, 3), (42, .iload_n 1, 1), (43, .iload 4, 2), (45, .idiv, 1), (46, .goto 7, 3), (49, .iload_n 2, 1), (50, .iload 4, 2), (52, .idiv, 1), (53, .ireturn, 1)]
theorem dtX7_part : dchk cX7_part tX7_part = true := by decide +kernel
def tX7_point_0 : List (Nat × Instr × Nat) := [(0, .aload_n 0, 1), (1, .iload_n 1, 1), (2, .invokevirtual 160, 3), (5, .ifCond .ne 6, 3), (8, .ldc 163, 2), (10, .ireturn, 1), (11, .iload_n 2, 1), (12, .i2l, 1), (13, .lconst 0, 1), (14, .ldc2_w 188, 3), (17, .invokestatic 65, 3), (20, .ifCond .eq 13, 3), (23, .iload_n 3, 1), (24, .i2l, 1), (25, .lconst 0, 1), (26, .lconst 1, 1), (27, .invokestatic 65, 3), (30, .ifCond .ne 6, 3), (33, .ldc 75, 2), (35, .ireturn, 1), (36, .aload_n 0, 1), (37, .iconst 0, 1), (38, .invokevirtual 54, 3), (41, .iload_n 2, 1), (42, .tableswitch 117 0 4 #[34, 34, 49, 72, 86], 34), (76, .aload_n 0, 1), (77, .aload_n 0, 1), (78, .iconst 0, 1), (79, .iload_n 1, 1), (80, .iload_n 2, 1), (81, .invokevirtual 171, 3), (84, .bipush 60, 2), (86, .iload_n 3, 1), (87, .invokevirtual 190, 3), (90, .ireturn, 1), (91, .aload_n 0, 1), (92, .aload_n 0, 1), (93, .iconst 0, 1), (94, .iload_n 1, 1), (95, .iconst 0, 1), (96, .invokevirtual 171, 3), (99, .aload_n 0, 1), (100, .iconst 0, 1), (101, .iload_n 1, 1), (102, .iconst 1, 1), (103, .invokevirtual 171, 3), (106, .iadd, 1), (107, .bipush 120, 2), (109, .iload_n 3, 1), (110, .invokevirtual 190, 3), (113, .ireturn, 1), (114, .aload_n 0, 1), (115, .aload_n 0, 1), (116, .iconst 0, 1), (117, .iload_n 1, 1), (118, .invokevirtual 175, 3), (121, .bipush 120, 2), (123, .iload_n 3, 1), (124, .invokevirtual 190, 3), (127, .ireturn, 1), (128, .aload_n 0, 1), (129, .aload_n 0, 1), (130, .getfield 39, 3), (133, .aload_n 0, 1)]
theorem dtX7_point_0 : dchk cX7_point tX7_point_0 = true := by decide +kernel
def tX7_point_1 : List (Nat × Instr × Nat) := [(134, .getfield 33, 3), (137, .iload_n 1, 1), (138, .iaload, 1), (139, .iaload, 1), (140, .bipush 120, 2), (142, .aload_n 0, 1), (143, .getfield 36, 3), (146, .aload_n 0, 1), (147, .getfield 33, 3), (150, .iload_n 1, 1), (151, .iaload, 1), (152, .iaload, 1), (153, .imul, 1), (154, .iload_n 3, 1), (155, .invokevirtual 190, 3), (158, .ireturn, 1), (159, .aload_n 0, 1), (160, .aload_n 0, 1), (161, .iload_n 1, 1), (162, .iload_n 2, 1), (163, .iconst 5, 1), (164, .isub, 1), (165, .invokevirtual 193, 3), (168, .bipush 60, 2), (170, .iload_n 3, 1), (171, .invokevirtual 190, 3), (174, .ireturn, 1)]
theorem dtX7_point_1 : dchk cX7_point tX7_point_1 = true := by decide +kernel
def tX7_table : List (Nat × Instr × Nat) := [(0, .aload_n 0, 1), (1, .iload_n 1, 1), (2, .invokevirtual 160, 3), (5, .ifCond .ne 6, 3), (8, .ldc 163, 2), (10, .ireturn, 1), (11, .iload_n 2, 1), (12, .i2l, 1), (13, .lconst 0, 1), (14, .ldc2_w 196, 3), (17, .invokestatic 65, 3), (20, .ifCond .ne 6, 3), (23, .ldc 75, 2), (25, .ireturn, 1), (26, .aload_n 0, 1), (27, .iconst 0, 1), (28, .invokevirtual 54, 3), (31, .iload_n 2, 1), (32, .ifCond .ne 12, 3), (35, .aload_n 0, 1), (36, .getfield 30, 3), (39, .iload_n 1, 1), (40, .iaload, 1), (41, .goto 27, 3), (44, .iload_n 2, 1), (45, .iconst 1, 1), (46, .if_icmp .ne 11, 3), (49, .aload_n 0, 1), (50, .iload_n 1, 1), (51, .invokevirtual 198, 3), (54, .goto 14, 3), (57, .aload_n 0, 1), (58, .getfield 36, 3), (61, .aload_n 0, 1), (62, .getfield 33, 3), (65, .iload_n 1, 1), (66, .iaload, 1), (67, .iaload, 1), (68, .ireturn, 1)]
theorem dtX7_table : dchk cX7_table tX7_table = true := by decide +kernel
def tX7_play : List (Nat × Instr × Nat) := [(0, .iload_n 1, 1), (1, .i2l, 1), (2, .lconst 0, 1), (3, .lconst 1, 1), (4, .invokestatic 65, 3), (7, .ifCond .eq 23, 3), (10, .aload_n 0, 1), (11, .aload_n 0, 1), (12, .iconst 0, 1), (13, .invokevirtual 182, 3), (16, .bipush 60, 2), (18, .aload_n 0, 1), (19, .getfield 7, 3), (22, .imul, 1), (23, .iload_n 1, 1), (24, .invokevirtual 190, 3), (27, .goto 5, 3), (30, .ldc 75, 2), (32, .ireturn, 1)]
theorem dtX7_play : dchk cX7_play tX7_play = true := by decide +kernel
def tX7_worst : List (Nat × Instr × Nat) := [(0, .aload_n 0, 1), (1, .iconst 0, 1), (2, .invokevirtual 54, 3), (5, .iconst 0, 1), (6, .istore_n 1, 1), (7, .iconst (-1), 1), (8, .istore_n 2, 1), (9, .iconst 0, 1), (10, .istore_n 3, 1), (11, .iload_n 3, 1), (12, .iconst 2, 1), (13, .aload_n 0, 1), (14, .getfield 7, 3), (17, .imul, 1), (18, .if_icmp .ge 61, 3), (21, .aload_n 0, 1), (22, .iload_n 3, 1), (23, .iconst 2, 1), (24, .idiv, 1), (25, .iload_n 3, 1), (26, .iconst 2, 1), (27, .irem, 1), (28, .invokevirtual 193, 3), (31, .istore 4, 2), (33, .iload 4, 2), (35, .ifCond .ge 9, 3), (38, .iload 4, 2), (40, .ineg, 1), (41, .goto 5, 3), (44, .iload 4, 2), (46, .istore 4, 2), (48, .iload 4, 2), (50, .iload_n 2, 1), (51, .if_icmp .le 7, 3), (54, .iload_n 3, 1), (55, .goto 4, 3), (58, .iload_n 1, 1), (59, .istore_n 1, 1), (60, .iload 4, 2), (62, .iload_n 2, 1), (63, .if_icmp .le 8, 3), (66, .iload 4, 2), (68, .goto 4, 3), (71, .iload_n 2, 1), (72, .istore_n 2, 1), (73, .iinc 3 1, 3), (76, .goto (-65), 3), (79, .iload_n 1, 1), (80, .ireturn, 1)]
theorem dtX7_worst : dchk cX7_worst tX7_worst = true := by decide +kernel
def tX7_merged : List (Nat × Instr × Nat) := [(0, .aload_n 0, 1), (1, .iload_n 1, 1), (2, .invokevirtual 160, 3), (5, .ifCond .ne 6, 3), (8, .ldc 163, 2), (10, .ireturn, 1), (11, .iload_n 2, 1), (12, .invokestatic 133, 3), (15, .ifCond .eq 10, 3), (18, .iload_n 3, 1), (19, .invokestatic 164, 3), (22, .ifCond .ne 6, 3), (25, .ldc 75, 2), (27, .ireturn, 1), (28, .aload_n 0, 1), (29, .iconst 0, 1), (30, .bipush 117, 2), (32, .invokevirtual 156, 3), (35, .aload_n 0, 1), (36, .bipush 117, 2), (38, .iload_n 1, 1), (39, .iload_n 2, 1), (40, .iload_n 3, 1), (41, .invokevirtual 125, 3), (44, .aload_n 0, 1), (45, .bipush 117, 2), (47, .invokevirtual 54, 3), (50, .aload_n 0, 1), (51, .getfield 30, 3), (54, .iload_n 1, 1), (55, .iaload, 1), (56, .ireturn, 1)]
theorem dtX7_merged : dchk cX7_merged tX7_merged = true := by decide +kernel
def tX7_last : List (Nat × Instr × Nat) := [(0, .aload_n 0, 1), (1, .getfield 13, 3), (4, .aload_n 0, 1), (5, .getfield 7, 3), (8, .iconst 1, 1), (9, .isub, 1), (10, .imul, 1), (11, .ireturn, 1)]
theorem dtX7_last : dchk cX7_last tX7_last = true := by decide +kernel
def tX7_countAt : List (Nat × Instr × Nat) := [(0, .iload_n 1, 1), (1, .aload_n 0, 1), (2, .getfield 13, 3), (5, .idiv, 1), (6, .istore_n 2, 1), (7, .iload_n 2, 1), (8, .aload_n 0, 1), (9, .getfield 7, 3), (12, .iconst 2, 1), (13, .isub, 1), (14, .if_icmp .le 12, 3), (17, .aload_n 0, 1), (18, .getfield 7, 3), (21, .iconst 2, 1), (22, .isub, 1), (23, .goto 4, 3), (26, .iload_n 2, 1), (27, .istore_n 2, 1), (28, .aload_n 0, 1), (29, .getfield 30, 3), (32, .iload_n 2, 1), (33, .iaload, 1), (34, .aload_n 0, 1), (35, .getfield 30, 3), (38, .iload_n 2, 1), (39, .iconst 1, 1), (40, .iadd, 1), (41, .iaload, 1), (42, .aload_n 0, 1), (43, .getfield 30, 3), (46, .iload_n 2, 1), (47, .iaload, 1), (48, .isub, 1), (49, .iload_n 1, 1), (50, .aload_n 0, 1), (51, .getfield 13, 3), (54, .iload_n 2, 1), (55, .imul, 1), (56, .isub, 1), (57, .imul, 1), (58, .aload_n 0, 1), (59, .getfield 13, 3), (62, .idiv, 1), (63, .iadd, 1), (64, .ireturn, 1)]
theorem dtX7_countAt : dchk cX7_countAt tX7_countAt = true := by decide +kernel
end
section
def tX7_move_0 : List (Nat × Instr × Nat) := [(0, .iload_n 1, 1), (1, .i2l, 1), (2, .lconst 0, 1), (3, .aload_n 0, 1), (4, .invokevirtual 201, 3), (7, .i2l, 1), (8, .invokestatic 65, 3), (11, .ifCond .ne 6, 3), (14, .ldc 75, 2), (16, .ireturn, 1), (17, .iload_n 1, 1), (18, .aload_n 0, 1), (19, .getfield 16, 3), (22, .bipush 112, 2), (24, .iaload, 1), (25, .if_icmp .ne 6, 3), (28, .ldc 155, 2), (30, .ireturn, 1), (31, .aload_n 0, 1), (32, .invokevirtual 167, 3), (35, .aload_n 0, 1), (36, .iconst 0, 1), (37, .invokevirtual 54, 3), (40, .iload_n 1, 1), (41, .aload_n 0, 1), (42, .getfield 16, 3), (45, .bipush 112, 2), (47, .iaload, 1), (48, .if_icmp .le 7, 3), (51, .iconst 1, 1), (52, .goto 4, 3), (55, .iconst 0, 1), (56, .istore_n 2, 1), (57, .aload_n 0, 1), (58, .iload_n 1, 1), (59, .invokevirtual 58, 3), (62, .iload_n 2, 1), (63, .iconst 1, 1), (64, .if_icmp .ne 7, 3), (67, .iconst 0, 1), (68, .goto 7, 3), (71, .aload_n 0, 1), (72, .getfield 185, 3), (75, .isub, 1), (76, .istore_n 3, 1), (77, .aload_n 0, 1), (78, .getfield 16, 3), (81, .bipush 114, 2), (83, .dup2, 1), (84, .iaload, 1), (85, .iload_n 2, 1), (86, .aload_n 0, 1), (87, .getfield 16, 3), (90, .bipush 116, 2), (92, .iaload, 1), (93, .if_icmp .ne 7, 3), (96, .iconst 0, 1), (97, .goto 4, 3), (100, .iconst 1, 1), (101, .iadd, 1), (102, .iastore, 1), (103, .aload_n 0, 1), (104, .getfield 16, 3), (107, .bipush 115, 2)]
theorem dtX7_move_0 : dchk cX7_move tX7_move_0 = true := by decide +kernel
def tX7_move_1 : List (Nat × Instr × Nat) := [(109, .dup2, 1), (110, .iaload, 1), (111, .iload_n 3, 1), (112, .aload_n 0, 1), (113, .getfield 16, 3), (116, .bipush 113, 2), (118, .iaload, 1), (119, .if_icmp .ge 15, 3), (122, .aload_n 0, 1), (123, .getfield 16, 3), (126, .bipush 113, 2), (128, .iaload, 1), (129, .iload_n 3, 1), (130, .isub, 1), (131, .goto 12, 3), (134, .iload_n 3, 1), (135, .aload_n 0, 1), (136, .getfield 16, 3), (139, .bipush 113, 2), (141, .iaload, 1), (142, .isub, 1), (143, .iadd, 1), (144, .iastore, 1), (145, .aload_n 0, 1), (146, .getfield 16, 3), (149, .bipush 113, 2), (151, .iload_n 3, 1), (152, .iastore, 1), (153, .aload_n 0, 1), (154, .getfield 16, 3), (157, .bipush 112, 2), (159, .iload_n 1, 1), (160, .iastore, 1), (161, .aload_n 0, 1), (162, .getfield 16, 3), (165, .bipush 116, 2), (167, .iload_n 2, 1), (168, .iastore, 1), (169, .iload_n 3, 1), (170, .ireturn, 1)]
theorem dtX7_move_1 : dchk cX7_move tX7_move_1 = true := by decide +kernel
def tX7_countOf : List (Nat × Instr × Nat) := [(0, .iload_n 1, 1), (1, .i2l, 1), (2, .lconst 0, 1), (3, .aload_n 0, 1), (4, .invokevirtual 201, 3), (7, .i2l, 1), (8, .invokestatic 65, 3), (11, .ifCond .ne 6, 3), (14, .ldc 75, 2), (16, .ireturn, 1), (17, .aload_n 0, 1), (18, .iconst 0, 1), (19, .invokevirtual 54, 3), (22, .aload_n 0, 1), (23, .iload_n 1, 1), (24, .invokevirtual 58, 3), (27, .ireturn, 1)]
theorem dtX7_countOf : dchk cX7_countOf tX7_countOf = true := by decide +kernel
def tX7_placeOf : List (Nat × Instr × Nat) := [(0, .iload_n 1, 1), (1, .i2l, 1), (2, .ldc2_w 204, 3), (5, .ldc2_w 206, 3), (8, .invokestatic 65, 3), (11, .ifCond .ne 6, 3), (14, .ldc 75, 2), (16, .ireturn, 1), (17, .aload_n 0, 1), (18, .iconst 0, 1), (19, .invokevirtual 54, 3), (22, .iconst 0, 1), (23, .istore_n 2, 1), (24, .iload_n 2, 1), (25, .aload_n 0, 1), (26, .invokevirtual 201, 3), (29, .if_icmp .gt 20, 3), (32, .aload_n 0, 1), (33, .iload_n 2, 1), (34, .invokevirtual 58, 3), (37, .iload_n 1, 1), (38, .if_icmp .lt 5, 3), (41, .iload_n 2, 1), (42, .ireturn, 1), (43, .iinc 2 1, 3), (46, .goto (-22), 3), (49, .ldc 170, 2), (51, .ireturn, 1)]
theorem dtX7_placeOf : dchk cX7_placeOf tX7_placeOf = true := by decide +kernel
def tX7_puts : List (Nat × Instr × Nat) := [(0, .aload_n 0, 1), (1, .getfield 42, 3), (4, .aload_n 0, 1), (5, .getfield 208, 3), (8, .iload_n 1, 1), (9, .iastore, 1), (10, .aload_n 0, 1), (11, .dup, 1), (12, .getfield 208, 3), (15, .iconst 1, 1), (16, .iadd, 1), (17, .putfield 208, 3), (20, .return_, 1)]
theorem dtX7_puts : dchk cX7_puts tX7_puts = true := by decide +kernel
def tX7_putsNumber : List (Nat × Instr × Nat) := [(0, .iconst 1, 1), (1, .istore_n 2, 1), (2, .iload_n 1, 1), (3, .iload_n 2, 1), (4, .idiv, 1), (5, .bipush 9, 2), (7, .if_icmp .le 11, 3), (10, .iload_n 2, 1), (11, .bipush 10, 2), (13, .imul, 1), (14, .istore_n 2, 1), (15, .goto (-13), 3), (18, .iload_n 2, 1), (19, .ifCond .le 24, 3), (22, .aload_n 0, 1), (23, .bipush 48, 2), (25, .iload_n 1, 1), (26, .iload_n 2, 1), (27, .idiv, 1), (28, .bipush 10, 2), (30, .irem, 1), (31, .iadd, 1), (32, .invokevirtual 211, 3), (35, .iload_n 2, 1), (36, .bipush 10, 2), (38, .idiv, 1), (39, .istore_n 2, 1), (40, .goto (-22), 3), (43, .return_, 1)]
theorem dtX7_putsNumber : dchk cX7_putsNumber tX7_putsNumber = true := by decide +kernel
def tX7_laySheet : List (Nat × Instr × Nat) := [(0, .aload_n 0, 1), (1, .iconst 0, 1), (2, .invokevirtual 54, 3), (5, .aload_n 0, 1), (6, .iconst 0, 1), (7, .putfield 208, 3), (10, .iconst 0, 1), (11, .istore_n 1, 1), (12, .iload_n 1, 1), (13, .aload_n 0, 1), (14, .getfield 7, 3), (17, .if_icmp .ge 72, 3), (20, .aload_n 0, 1), (21, .getfield 30, 3), (24, .iload_n 1, 1), (25, .iaload, 1), (26, .aload_n 0, 1), (27, .getfield 13, 3), (30, .iload_n 1, 1), (31, .imul, 1), (32, .isub, 1), (33, .istore_n 2, 1), (34, .aload_n 0, 1), (35, .bipush 48, 2), (37, .iload_n 1, 1), (38, .iadd, 1), (39, .invokevirtual 211, 3), (42, .aload_n 0, 1), (43, .bipush 58, 2), (45, .invokevirtual 211, 3), (48, .aload_n 0, 1), (49, .iload_n 2, 1), (50, .ifCond .ge 8, 3), (53, .bipush 45, 2), (55, .goto 5, 3), (58, .bipush 43, 2), (60, .invokevirtual 211, 3), (63, .aload_n 0, 1), (64, .iload_n 2, 1), (65, .ifCond .ge 8, 3), (68, .iload_n 2, 1), (69, .ineg, 1), (70, .goto 4, 3), (73, .iload_n 2, 1), (74, .invokevirtual 214, 3), (77, .aload_n 0, 1), (78, .bipush 59, 2), (80, .invokevirtual 211, 3), (83, .iinc 1 1, 3), (86, .goto (-74), 3), (89, .aload_n 0, 1), (90, .bipush 112, 2), (92, .invokevirtual 211, 3), (95, .aload_n 0, 1), (96, .aload_n 0, 1), (97, .getfield 185, 3), (100, .invokevirtual 214, 3), (103, .return_, 1)]
theorem dtX7_laySheet : dchk cX7_laySheet tX7_laySheet = true := by decide +kernel
def tX7_sheetLong : List (Nat × Instr × Nat) := [(0, .aload_n 0, 1), (1, .invokevirtual 217, 3), (4, .aload_n 0, 1), (5, .getfield 208, 3), (8, .ireturn, 1)]
theorem dtX7_sheetLong : dchk cX7_sheetLong tX7_sheetLong = true := by decide +kernel
def tX7_runs : List (Nat × Instr × Nat) := [(0, .iconst 0, 1), (1, .istore_n 1, 1), (2, .iconst 0, 1), (3, .istore_n 2, 1), (4, .iload_n 2, 1), (5, .iconst 2, 1), (6, .aload_n 0, 1), (7, .getfield 7, 3), (10, .imul, 1), (11, .if_icmp .ge 20, 3), (14, .iload_n 1, 1), (15, .aload_n 0, 1), (16, .getfield 16, 3), (19, .iconst 0, 1), (20, .iload_n 2, 1), (21, .iadd, 1), (22, .iaload, 1), (23, .iadd, 1), (24, .istore_n 1, 1), (25, .iinc 2 1, 3), (28, .goto (-24), 3), (31, .iload_n 1, 1), (32, .ireturn, 1)]
theorem dtX7_runs : dchk cX7_runs tX7_runs = true := by decide +kernel
def tX7_playNow : List (Nat × Instr × Nat) := [(0, .aload_n 0, 1), (1, .iconst 0, 1), (2, .invokevirtual 54, 3), (5, .aload_n 0, 1), (6, .getfield 185, 3), (9, .ireturn, 1)]
theorem dtX7_playNow : dchk cX7_playNow tX7_playNow = true := by decide +kernel
def tX7_told : List (Nat × Instr × Nat) := [(0, .iload_n 1, 1), (1, .tableswitch 147 0 12 #[67, 72, 77, 82, 90, 98, 106, 114, 122, 127, 132, 137, 142], 67), (68, .aload_n 0, 1), (69, .getfield 7, 3), (72, .ireturn, 1), (73, .aload_n 0, 1), (74, .getfield 13, 3), (77, .ireturn, 1), (78, .aload_n 0, 1), (79, .invokevirtual 220, 3), (82, .ireturn, 1), (83, .aload_n 0, 1), (84, .getfield 16, 3), (87, .bipush 112, 2), (89, .iaload, 1), (90, .ireturn, 1), (91, .aload_n 0, 1), (92, .getfield 16, 3), (95, .bipush 113, 2), (97, .iaload, 1), (98, .ireturn, 1), (99, .aload_n 0, 1), (100, .getfield 16, 3), (103, .bipush 114, 2), (105, .iaload, 1), (106, .ireturn, 1), (107, .aload_n 0, 1), (108, .getfield 16, 3), (111, .bipush 115, 2), (113, .iaload, 1), (114, .ireturn, 1), (115, .aload_n 0, 1), (116, .getfield 16, 3), (119, .bipush 116, 2), (121, .iaload, 1), (122, .ireturn, 1), (123, .aload_n 0, 1), (124, .invokevirtual 223, 3), (127, .ireturn, 1), (128, .aload_n 0, 1), (129, .invokevirtual 226, 3), (132, .ireturn, 1), (133, .aload_n 0, 1), (134, .invokevirtual 229, 3), (137, .ireturn, 1), (138, .aload_n 0, 1), (139, .getfield 62, 3), (142, .ireturn, 1), (143, .aload_n 0, 1), (144, .getfield 76, 3), (147, .ireturn, 1), (148, .ldc 75, 2), (150, .ireturn, 1)]
theorem dtX7_told : dchk cX7_told tX7_told = true := by decide +kernel
def tX7_sheet : List (Nat × Instr × Nat) := [(0, .iload_n 1, 1), (1, .ifCond .ge 6, 3), (4, .ldc 75, 2), (6, .ireturn, 1), (7, .aload_n 0, 1), (8, .invokevirtual 217, 3), (11, .iload_n 1, 1), (12, .aload_n 0, 1), (13, .getfield 208, 3), (16, .if_icmp .ge 12, 3), (19, .aload_n 0, 1), (20, .getfield 42, 3), (23, .iload_n 1, 1), (24, .iaload, 1), (25, .goto 5, 3), (28, .ldc 170, 2), (30, .ireturn, 1)]
theorem dtX7_sheet : dchk cX7_sheet tX7_sheet = true := by decide +kernel
def tX7_isLabel : List (Nat × Instr × Nat) := [(0, .iload_n 0, 1), (1, .i2l, 1), (2, .lconst 0, 1), (3, .ldc2_w 196, 3), (6, .invokestatic 65, 3), (9, .ireturn, 1)]
theorem dtX7_isLabel : dchk cX7_isLabel tX7_isLabel = true := by decide +kernel
def tX7_lettersOfAll : List (Nat × Instr × Nat) := [(0, .iconst 0, 1), (1, .istore_n 1, 1), (2, .iconst 0, 1), (3, .istore_n 2, 1), (4, .iload_n 2, 1), (5, .iconst 3, 1), (6, .if_icmp .ge 31, 3), (9, .iload_n 1, 1), (10, .aload_n 0, 1), (11, .getfield 45, 3), (14, .iload_n 2, 1), (15, .iaload, 1), (16, .ifCond .ge 7, 3), (19, .iconst 0, 1), (20, .goto 9, 3), (23, .aload_n 0, 1), (24, .getfield 45, 3), (27, .iload_n 2, 1), (28, .iaload, 1), (29, .iadd, 1), (30, .istore_n 1, 1), (31, .iinc 2 1, 3), (34, .goto (-30), 3), (37, .iload_n 1, 1), (38, .ireturn, 1)]
theorem dtX7_lettersOfAll : dchk cX7_lettersOfAll tX7_lettersOfAll = true := by decide +kernel
def tX7_label : List (Nat × Instr × Nat) := [(0, .iload_n 1, 1), (1, .invokestatic 232, 3), (4, .ifCond .ne 6, 3), (7, .ldc 163, 2), (9, .ireturn, 1), (10, .aload_n 0, 1), (11, .getfield 45, 3), (14, .iload_n 1, 1), (15, .iconst 0, 1), (16, .iastore, 1), (17, .iconst 0, 1), (18, .ireturn, 1)]
theorem dtX7_label : dchk cX7_label tX7_label = true := by decide +kernel
def tX7_insert_0 : List (Nat × Instr × Nat) := [(0, .iload_n 1, 1), (1, .invokestatic 232, 3), (4, .ifCond .ne 6, 3), (7, .ldc 163, 2), (9, .ireturn, 1), (10, .iload_n 3, 1), (11, .i2l, 1), (12, .ldc2_w 235, 3), (15, .ldc2_w 237, 3), (18, .invokestatic 65, 3), (21, .ifCond .ne 6, 3), (24, .ldc 75, 2), (26, .ireturn, 1), (27, .aload_n 0, 1), (28, .getfield 45, 3), (31, .iload_n 1, 1), (32, .iaload, 1), (33, .ifCond .ge 6, 3), (36, .ldc 239, 2), (38, .ireturn, 1), (39, .iload_n 2, 1), (40, .i2l, 1), (41, .lconst 0, 1), (42, .aload_n 0, 1), (43, .getfield 45, 3), (46, .iload_n 1, 1), (47, .iaload, 1), (48, .i2l, 1), (49, .invokestatic 65, 3), (52, .ifCond .ne 6, 3), (55, .ldc 240, 2), (57, .ireturn, 1), (58, .aload_n 0, 1), (59, .getfield 45, 3), (62, .iload_n 1, 1), (63, .iaload, 1), (64, .bipush 24, 2), (66, .if_icmp .ne 6, 3), (69, .ldc 241, 2), (71, .ireturn, 1), (72, .aload_n 0, 1), (73, .getfield 45, 3), (76, .iload_n 1, 1), (77, .iaload, 1), (78, .istore 4, 2), (80, .iload 4, 2), (82, .iload_n 2, 1), (83, .if_icmp .le 35, 3), (86, .aload_n 0, 1), (87, .getfield 48, 3), (90, .bipush 24, 2), (92, .iload_n 1, 1), (93, .imul, 1), (94, .iload 4, 2), (96, .iadd, 1), (97, .aload_n 0, 1), (98, .getfield 48, 3), (101, .bipush 24, 2), (103, .iload_n 1, 1), (104, .imul, 1), (105, .iload 4, 2), (107, .iadd, 1), (108, .iconst 1, 1), (109, .isub, 1)]
theorem dtX7_insert_0 : dchk cX7_insert tX7_insert_0 = true := by decide +kernel
def tX7_insert_1 : List (Nat × Instr × Nat) := [(110, .iaload, 1), (111, .iastore, 1), (112, .iinc 4 (-1), 3), (115, .goto (-35), 3), (118, .aload_n 0, 1), (119, .getfield 48, 3), (122, .bipush 24, 2), (124, .iload_n 1, 1), (125, .imul, 1), (126, .iload_n 2, 1), (127, .iadd, 1), (128, .iload_n 3, 1), (129, .iastore, 1), (130, .aload_n 0, 1), (131, .getfield 45, 3), (134, .iload_n 1, 1), (135, .dup2, 1), (136, .iaload, 1), (137, .iconst 1, 1), (138, .iadd, 1), (139, .iastore, 1), (140, .aload_n 0, 1), (141, .getfield 45, 3), (144, .iload_n 1, 1), (145, .iaload, 1), (146, .ireturn, 1)]
theorem dtX7_insert_1 : dchk cX7_insert tX7_insert_1 = true := by decide +kernel
def tX7_cut_0 : List (Nat × Instr × Nat) := [(0, .iload_n 1, 1), (1, .invokestatic 232, 3), (4, .ifCond .ne 6, 3), (7, .ldc 163, 2), (9, .ireturn, 1), (10, .aload_n 0, 1), (11, .getfield 45, 3), (14, .iload_n 1, 1), (15, .iaload, 1), (16, .ifCond .ge 6, 3), (19, .ldc 239, 2), (21, .ireturn, 1), (22, .iload_n 2, 1), (23, .ifCond .lt 18, 3), (26, .iload_n 3, 1), (27, .iload_n 2, 1), (28, .if_icmp .lt 13, 3), (31, .iload_n 3, 1), (32, .aload_n 0, 1), (33, .getfield 45, 3), (36, .iload_n 1, 1), (37, .iaload, 1), (38, .if_icmp .le 6, 3), (41, .ldc 240, 2), (43, .ireturn, 1), (44, .iload_n 3, 1), (45, .istore 4, 2), (47, .iload 4, 2), (49, .aload_n 0, 1), (50, .getfield 45, 3), (53, .iload_n 1, 1), (54, .iaload, 1), (55, .if_icmp .ge 37, 3), (58, .aload_n 0, 1), (59, .getfield 48, 3), (62, .bipush 24, 2), (64, .iload_n 1, 1), (65, .imul, 1), (66, .iload_n 2, 1), (67, .iadd, 1), (68, .iload 4, 2), (70, .iadd, 1), (71, .iload_n 3, 1), (72, .isub, 1), (73, .aload_n 0, 1), (74, .getfield 48, 3), (77, .bipush 24, 2), (79, .iload_n 1, 1), (80, .imul, 1), (81, .iload 4, 2), (83, .iadd, 1), (84, .iaload, 1), (85, .iastore, 1), (86, .iinc 4 1, 3), (89, .goto (-42), 3), (92, .aload_n 0, 1), (93, .getfield 45, 3), (96, .iload_n 1, 1), (97, .dup2, 1), (98, .iaload, 1), (99, .iload_n 3, 1), (100, .iload_n 2, 1), (101, .isub, 1), (102, .isub, 1)]
theorem dtX7_cut_0 : dchk cX7_cut tX7_cut_0 = true := by decide +kernel
def tX7_cut_1 : List (Nat × Instr × Nat) := [(103, .iastore, 1), (104, .aload_n 0, 1), (105, .getfield 45, 3), (108, .iload_n 1, 1), (109, .iaload, 1), (110, .ireturn, 1)]
theorem dtX7_cut_1 : dchk cX7_cut tX7_cut_1 = true := by decide +kernel
def tX7_join_0 : List (Nat × Instr × Nat) := [(0, .iload_n 1, 1), (1, .invokestatic 232, 3), (4, .ifCond .eq 10, 3), (7, .iload_n 2, 1), (8, .invokestatic 232, 3), (11, .ifCond .ne 6, 3), (14, .ldc 163, 2), (16, .ireturn, 1), (17, .aload_n 0, 1), (18, .getfield 45, 3), (21, .iload_n 1, 1), (22, .iaload, 1), (23, .ifCond .lt 12, 3), (26, .aload_n 0, 1), (27, .getfield 45, 3), (30, .iload_n 2, 1), (31, .iaload, 1), (32, .ifCond .ge 6, 3), (35, .ldc 239, 2), (37, .ireturn, 1), (38, .aload_n 0, 1), (39, .getfield 45, 3), (42, .iload_n 2, 1), (43, .iaload, 1), (44, .istore_n 3, 1), (45, .aload_n 0, 1), (46, .getfield 45, 3), (49, .iload_n 1, 1), (50, .iaload, 1), (51, .iload_n 3, 1), (52, .iadd, 1), (53, .bipush 24, 2), (55, .if_icmp .le 6, 3), (58, .ldc 241, 2), (60, .ireturn, 1), (61, .iconst 0, 1), (62, .istore 4, 2), (64, .iload 4, 2), (66, .iload_n 3, 1), (67, .if_icmp .ge 40, 3), (70, .aload_n 0, 1), (71, .getfield 48, 3), (74, .bipush 24, 2), (76, .iload_n 1, 1), (77, .imul, 1), (78, .aload_n 0, 1), (79, .getfield 45, 3), (82, .iload_n 1, 1), (83, .iaload, 1), (84, .iadd, 1), (85, .iload 4, 2), (87, .iadd, 1), (88, .aload_n 0, 1), (89, .getfield 48, 3), (92, .bipush 24, 2), (94, .iload_n 2, 1), (95, .imul, 1), (96, .iload 4, 2), (98, .iadd, 1), (99, .iaload, 1), (100, .iastore, 1), (101, .iinc 4 1, 3), (104, .goto (-40), 3), (107, .aload_n 0, 1)]
theorem dtX7_join_0 : dchk cX7_join tX7_join_0 = true := by decide +kernel
def tX7_join_1 : List (Nat × Instr × Nat) := [(108, .getfield 45, 3), (111, .iload_n 1, 1), (112, .dup2, 1), (113, .iaload, 1), (114, .iload_n 3, 1), (115, .iadd, 1), (116, .iastore, 1), (117, .aload_n 0, 1), (118, .getfield 45, 3), (121, .iload_n 1, 1), (122, .iaload, 1), (123, .ireturn, 1)]
theorem dtX7_join_1 : dchk cX7_join tX7_join_1 = true := by decide +kernel
def tX7_turn_0 : List (Nat × Instr × Nat) := [(0, .iload_n 1, 1), (1, .invokestatic 232, 3), (4, .ifCond .ne 6, 3), (7, .ldc 163, 2), (9, .ireturn, 1), (10, .aload_n 0, 1), (11, .getfield 45, 3), (14, .iload_n 1, 1), (15, .iaload, 1), (16, .ifCond .ge 6, 3), (19, .ldc 239, 2), (21, .ireturn, 1), (22, .iconst 0, 1), (23, .istore_n 2, 1), (24, .iload_n 2, 1), (25, .aload_n 0, 1), (26, .getfield 45, 3), (29, .iload_n 1, 1), (30, .iaload, 1), (31, .iconst 2, 1), (32, .idiv, 1), (33, .if_icmp .ge 63, 3), (36, .bipush 24, 2), (38, .iload_n 1, 1), (39, .imul, 1), (40, .aload_n 0, 1), (41, .getfield 45, 3), (44, .iload_n 1, 1), (45, .iaload, 1), (46, .iadd, 1), (47, .iconst 1, 1), (48, .isub, 1), (49, .iload_n 2, 1), (50, .isub, 1), (51, .istore_n 3, 1), (52, .aload_n 0, 1), (53, .getfield 48, 3), (56, .bipush 24, 2), (58, .iload_n 1, 1), (59, .imul, 1), (60, .iload_n 2, 1), (61, .iadd, 1), (62, .iaload, 1), (63, .istore 4, 2), (65, .aload_n 0, 1), (66, .getfield 48, 3), (69, .bipush 24, 2), (71, .iload_n 1, 1), (72, .imul, 1), (73, .iload_n 2, 1), (74, .iadd, 1), (75, .aload_n 0, 1), (76, .getfield 48, 3), (79, .iload_n 3, 1), (80, .iaload, 1), (81, .iastore, 1), (82, .aload_n 0, 1), (83, .getfield 48, 3), (86, .iload_n 3, 1), (87, .iload 4, 2), (89, .iastore, 1), (90, .iinc 2 1, 3), (93, .goto (-69), 3), (96, .aload_n 0, 1)]
theorem dtX7_turn_0 : dchk cX7_turn tX7_turn_0 = true := by decide +kernel
def tX7_turn_1 : List (Nat × Instr × Nat) := [(97, .getfield 45, 3), (100, .iload_n 1, 1), (101, .iaload, 1), (102, .ireturn, 1)]
theorem dtX7_turn_1 : dchk cX7_turn tX7_turn_1 = true := by decide +kernel
def tX7_letter : List (Nat × Instr × Nat) := [(0, .iload_n 1, 1), (1, .invokestatic 232, 3), (4, .ifCond .ne 6, 3), (7, .ldc 163, 2), (9, .ireturn, 1), (10, .aload_n 0, 1), (11, .getfield 45, 3), (14, .iload_n 1, 1), (15, .iaload, 1), (16, .ifCond .ge 8, 3), (19, .ldc 239, 2), (21, .goto 37, 3), (24, .iload_n 2, 1), (25, .i2l, 1), (26, .lconst 0, 1), (27, .aload_n 0, 1), (28, .getfield 45, 3), (31, .iload_n 1, 1), (32, .iaload, 1), (33, .iconst 1, 1), (34, .isub, 1), (35, .i2l, 1), (36, .invokestatic 65, 3), (39, .ifCond .eq 17, 3), (42, .aload_n 0, 1), (43, .getfield 48, 3), (46, .bipush 24, 2), (48, .iload_n 1, 1), (49, .imul, 1), (50, .iload_n 2, 1), (51, .iadd, 1), (52, .iaload, 1), (53, .goto 5, 3), (56, .ldc 240, 2), (58, .ireturn, 1)]
theorem dtX7_letter : dchk cX7_letter tX7_letter = true := by decide +kernel
def tX7_compare_0 : List (Nat × Instr × Nat) := [(0, .iload_n 1, 1), (1, .invokestatic 232, 3), (4, .ifCond .eq 10, 3), (7, .iload_n 2, 1), (8, .invokestatic 232, 3), (11, .ifCond .ne 6, 3), (14, .ldc 163, 2), (16, .ireturn, 1), (17, .aload_n 0, 1), (18, .getfield 45, 3), (21, .iload_n 1, 1), (22, .iaload, 1), (23, .ifCond .lt 12, 3), (26, .aload_n 0, 1), (27, .getfield 45, 3), (30, .iload_n 2, 1), (31, .iaload, 1), (32, .ifCond .ge 6, 3), (35, .ldc 239, 2), (37, .ireturn, 1), (38, .iconst 0, 1), (39, .istore_n 3, 1), (40, .iload_n 3, 1), (41, .aload_n 0, 1), (42, .getfield 45, 3), (45, .iload_n 1, 1), (46, .iaload, 1), (47, .if_icmp .ge 60, 3), (50, .iload_n 3, 1), (51, .aload_n 0, 1), (52, .getfield 45, 3), (55, .iload_n 2, 1), (56, .iaload, 1), (57, .if_icmp .ge 50, 3), (60, .aload_n 0, 1), (61, .getfield 48, 3), (64, .bipush 24, 2), (66, .iload_n 1, 1), (67, .imul, 1), (68, .iload_n 3, 1), (69, .iadd, 1), (70, .iaload, 1), (71, .aload_n 0, 1), (72, .getfield 48, 3), (75, .bipush 24, 2), (77, .iload_n 2, 1), (78, .imul, 1), (79, .iload_n 3, 1), (80, .iadd, 1), (81, .iaload, 1), (82, .isub, 1), (83, .istore 4, 2), (85, .iload 4, 2), (87, .ifCond .eq 14, 3), (90, .iload 4, 2), (92, .ifCond .ge 7, 3), (95, .iconst 0, 1), (96, .goto 4, 3), (99, .iconst 2, 1), (100, .ireturn, 1), (101, .iinc 3 1, 3), (104, .goto (-64), 3), (107, .aload_n 0, 1), (108, .getfield 45, 3)]
theorem dtX7_compare_0 : dchk cX7_compare tX7_compare_0 = true := by decide +kernel
def tX7_compare_1 : List (Nat × Instr × Nat) := [(111, .iload_n 1, 1), (112, .iaload, 1), (113, .aload_n 0, 1), (114, .getfield 45, 3), (117, .iload_n 2, 1), (118, .iaload, 1), (119, .if_icmp .ge 7, 3), (122, .iconst 0, 1), (123, .goto 23, 3), (126, .aload_n 0, 1), (127, .getfield 45, 3), (130, .iload_n 1, 1), (131, .iaload, 1), (132, .aload_n 0, 1), (133, .getfield 45, 3), (136, .iload_n 2, 1), (137, .iaload, 1), (138, .if_icmp .ne 7, 3), (141, .iconst 1, 1), (142, .goto 4, 3), (145, .iconst 2, 1), (146, .ireturn, 1)]
theorem dtX7_compare_1 : dchk cX7_compare tX7_compare_1 = true := by decide +kernel
def tX7_times_0 : List (Nat × Instr × Nat) := [(0, .iload_n 1, 1), (1, .invokestatic 232, 3), (4, .ifCond .ne 6, 3), (7, .ldc 163, 2), (9, .ireturn, 1), (10, .aload_n 0, 1), (11, .getfield 45, 3), (14, .iload_n 1, 1), (15, .iaload, 1), (16, .ifCond .ge 6, 3), (19, .ldc 239, 2), (21, .ireturn, 1), (22, .aload_n 0, 1), (23, .invokevirtual 217, 3), (26, .iconst 0, 1), (27, .istore_n 2, 1), (28, .iconst 0, 1), (29, .istore_n 3, 1), (30, .iload_n 3, 1), (31, .aload_n 0, 1), (32, .getfield 45, 3), (35, .iload_n 1, 1), (36, .iaload, 1), (37, .iadd, 1), (38, .aload_n 0, 1), (39, .getfield 208, 3), (42, .if_icmp .gt 90, 3), (45, .aload_n 0, 1), (46, .getfield 45, 3), (49, .iload_n 1, 1), (50, .iaload, 1), (51, .ifCond .le 81, 3), (54, .iconst 1, 1), (55, .istore 4, 2), (57, .iconst 0, 1), (58, .istore 5, 2), (60, .iload 5, 2), (62, .aload_n 0, 1), (63, .getfield 45, 3), (66, .iload_n 1, 1), (67, .iaload, 1), (68, .if_icmp .ge 45, 3), (71, .iload 4, 2), (73, .ifCond .eq 40, 3), (76, .aload_n 0, 1), (77, .getfield 42, 3), (80, .iload_n 3, 1), (81, .iload 5, 2), (83, .iadd, 1), (84, .iaload, 1), (85, .aload_n 0, 1), (86, .getfield 48, 3), (89, .bipush 24, 2), (91, .iload_n 1, 1), (92, .imul, 1), (93, .iload 5, 2), (95, .iadd, 1), (96, .iaload, 1), (97, .if_icmp .ne 7, 3), (100, .iconst 1, 1), (101, .goto 4, 3), (104, .iconst 0, 1), (105, .istore 4, 2), (107, .iinc 5 1, 3)]
theorem dtX7_times_0 : dchk cX7_times tX7_times_0 = true := by decide +kernel
def tX7_times_1 : List (Nat × Instr × Nat) := [(110, .goto (-50), 3), (113, .iload_n 2, 1), (114, .iload 4, 2), (116, .ifCond .eq 7, 3), (119, .iconst 1, 1), (120, .goto 4, 3), (123, .iconst 0, 1), (124, .iadd, 1), (125, .istore_n 2, 1), (126, .iinc 3 1, 3), (129, .goto (-99), 3), (132, .iload_n 2, 1), (133, .ireturn, 1)]
theorem dtX7_times_1 : dchk cX7_times tX7_times_1 = true := by decide +kernel
def tX7_word_0 : List (Nat × Instr × Nat) := [(0, .iload_n 1, 1), (1, .invokestatic 232, 3), (4, .ifCond .ne 6, 3), (7, .ldc 163, 2), (9, .ireturn, 1), (10, .aload_n 0, 1), (11, .getfield 45, 3), (14, .iload_n 1, 1), (15, .iaload, 1), (16, .ifCond .ge 6, 3), (19, .ldc 239, 2), (21, .ireturn, 1), (22, .ldc 170, 2), (24, .istore_n 2, 1), (25, .iconst 0, 1), (26, .istore_n 3, 1), (27, .iconst 0, 1), (28, .istore 4, 2), (30, .iload 4, 2), (32, .iconst 4, 1), (33, .if_icmp .ge 112, 3), (36, .iconst 0, 1), (37, .istore 5, 2), (39, .iconst 1, 1), (40, .istore 6, 2), (42, .aload_n 0, 1), (43, .getfield 27, 3), (46, .iload_n 3, 1), (47, .iload 5, 2), (49, .iadd, 1), (50, .iaload, 1), (51, .bipush 32, 2), (53, .if_icmp .eq 56, 3), (56, .iload 6, 2), (58, .ifCond .eq 42, 3), (61, .iload 5, 2), (63, .aload_n 0, 1), (64, .getfield 45, 3), (67, .iload_n 1, 1), (68, .iaload, 1), (69, .if_icmp .ge 31, 3), (72, .aload_n 0, 1), (73, .getfield 48, 3), (76, .bipush 24, 2), (78, .iload_n 1, 1), (79, .imul, 1), (80, .iload 5, 2), (82, .iadd, 1), (83, .iaload, 1), (84, .aload_n 0, 1), (85, .getfield 27, 3), (88, .iload_n 3, 1), (89, .iload 5, 2), (91, .iadd, 1), (92, .iaload, 1), (93, .if_icmp .ne 7, 3), (96, .iconst 1, 1), (97, .goto 4, 3), (100, .iconst 0, 1), (101, .istore 6, 2), (103, .iinc 5 1, 3), (106, .goto (-64), 3), (109, .iload 6, 2), (111, .ifCond .eq 19, 3)]
theorem dtX7_word_0 : dchk cX7_word tX7_word_0 = true := by decide +kernel
def tX7_word_1 : List (Nat × Instr × Nat) := [(114, .iload 5, 2), (116, .aload_n 0, 1), (117, .getfield 45, 3), (120, .iload_n 1, 1), (121, .iaload, 1), (122, .if_icmp .ne 8, 3), (125, .iload 4, 2), (127, .goto 4, 3), (130, .iload_n 2, 1), (131, .istore_n 2, 1), (132, .iload_n 3, 1), (133, .iload 5, 2), (135, .iconst 1, 1), (136, .iadd, 1), (137, .iadd, 1), (138, .istore_n 3, 1), (139, .iinc 4 1, 3), (142, .goto (-112), 3), (145, .iload_n 2, 1), (146, .ireturn, 1)]
theorem dtX7_word_1 : dchk cX7_word tX7_word_1 = true := by decide +kernel
def tX7_value_0 : List (Nat × Instr × Nat) := [(0, .iload_n 1, 1), (1, .invokestatic 232, 3), (4, .ifCond .ne 6, 3), (7, .ldc 163, 2), (9, .ireturn, 1), (10, .aload_n 0, 1), (11, .getfield 45, 3), (14, .iload_n 1, 1), (15, .iaload, 1), (16, .ifCond .ge 6, 3), (19, .ldc 239, 2), (21, .ireturn, 1), (22, .aload_n 0, 1), (23, .getfield 45, 3), (26, .iload_n 1, 1), (27, .iaload, 1), (28, .ifCond .le 21, 3), (31, .aload_n 0, 1), (32, .getfield 48, 3), (35, .bipush 24, 2), (37, .iload_n 1, 1), (38, .imul, 1), (39, .iaload, 1), (40, .bipush 45, 2), (42, .if_icmp .ne 7, 3), (45, .iconst 1, 1), (46, .goto 4, 3), (49, .iconst 0, 1), (50, .istore_n 2, 1), (51, .iload_n 2, 1), (52, .ifCond .eq 7, 3), (55, .iconst 1, 1), (56, .goto 4, 3), (59, .iconst 0, 1), (60, .istore_n 3, 1), (61, .aload_n 0, 1), (62, .getfield 45, 3), (65, .iload_n 1, 1), (66, .iaload, 1), (67, .iload_n 3, 1), (68, .isub, 1), (69, .i2l, 1), (70, .lconst 1, 1), (71, .ldc2_w 242, 3), (74, .invokestatic 65, 3), (77, .istore 4, 2), (79, .iconst 0, 1), (80, .istore 5, 2), (82, .iload_n 3, 1), (83, .istore 6, 2), (85, .iload 6, 2), (87, .aload_n 0, 1), (88, .getfield 45, 3), (91, .iload_n 1, 1), (92, .iaload, 1), (93, .if_icmp .ge 54, 3), (96, .iload 4, 2), (98, .ifCond .eq 49, 3), (101, .aload_n 0, 1), (102, .getfield 48, 3), (105, .bipush 24, 2), (107, .iload_n 1, 1), (108, .imul, 1), (109, .iload 6, 2)]
theorem dtX7_value_0 : dchk cX7_value tX7_value_0 = true := by decide +kernel
def tX7_value_1 : List (Nat × Instr × Nat) := [(111, .iadd, 1), (112, .iaload, 1), (113, .invokestatic 98, 3), (116, .istore 4, 2), (118, .bipush 10, 2), (120, .iload 5, 2), (122, .imul, 1), (123, .aload_n 0, 1), (124, .getfield 48, 3), (127, .bipush 24, 2), (129, .iload_n 1, 1), (130, .imul, 1), (131, .iload 6, 2), (133, .iadd, 1), (134, .iaload, 1), (135, .iadd, 1), (136, .bipush 48, 2), (138, .isub, 1), (139, .istore 5, 2), (141, .iinc 6 1, 3), (144, .goto (-59), 3), (147, .iload 4, 2), (149, .ifCond .ne 8, 3), (152, .ldc 244, 2), (154, .goto 15, 3), (157, .iload_n 2, 1), (158, .ifCond .eq 9, 3), (161, .iload 5, 2), (163, .ineg, 1), (164, .goto 5, 3), (167, .iload 5, 2), (169, .ireturn, 1)]
theorem dtX7_value_1 : dchk cX7_value tX7_value_1 = true := by decide +kernel
def tX7_drop : List (Nat × Instr × Nat) := [(0, .iload_n 1, 1), (1, .invokestatic 232, 3), (4, .ifCond .ne 6, 3), (7, .ldc 163, 2), (9, .ireturn, 1), (10, .aload_n 0, 1), (11, .getfield 45, 3), (14, .iload_n 1, 1), (15, .iaload, 1), (16, .istore_n 2, 1), (17, .aload_n 0, 1), (18, .getfield 45, 3), (21, .iload_n 1, 1), (22, .iconst (-1), 1), (23, .iastore, 1), (24, .iload_n 2, 1), (25, .ifCond .ge 8, 3), (28, .ldc 239, 2), (30, .goto 4, 3), (33, .iload_n 2, 1), (34, .ireturn, 1)]
theorem dtX7_drop : dchk cX7_drop tX7_drop = true := by decide +kernel
def tJ6_compare_7cf53 : List (Nat × Instr × Nat) := [(0, .iload_n 0, 1), (1, .iload_n 1, 1), (2, .if_icmp .ge 7, 3), (5, .iconst (-1), 1), (6, .goto 13, 3), (9, .iload_n 0, 1), (10, .iload_n 1, 1), (11, .if_icmp .ne 7, 3), (14, .iconst 0, 1), (15, .goto 4, 3), (18, .iconst 1, 1), (19, .ireturn, 1)]
theorem dtJ6_compare_7cf53 : dchk cJ6_compare_7cf53 tJ6_compare_7cf53 = true := by decide +kernel
def tJ9_floorDiv_7cf53 : List (Nat × Instr × Nat) := [(0, .iload_n 0, 1), (1, .iload_n 1, 1), (2, .idiv, 1), (3, .istore_n 2, 1), (4, .iload_n 0, 1), (5, .iload_n 1, 1), (6, .ixor, 1), (7, .ifCond .ge 14, 3), (10, .iload_n 2, 1), (11, .iload_n 1, 1), (12, .imul, 1), (13, .iload_n 0, 1), (14, .if_icmp .eq 7, 3), (17, .iload_n 2, 1), (18, .iconst 1, 1), (19, .isub, 1), (20, .ireturn, 1), (21, .iload_n 2, 1), (22, .ireturn, 1)]
theorem dtJ9_floorDiv_7cf53 : dchk cJ9_floorDiv_7cf53 tJ9_floorDiv_7cf53 = true := by decide +kernel
def tJ9_abs_0f7a4 : List (Nat × Instr × Nat) := [(0, .iload_n 0, 1), (1, .ifCond .ge 8, 3), (4, .iload_n 0, 1), (5, .ineg, 1), (6, .goto 4, 3), (9, .iload_n 0, 1), (10, .ireturn, 1)]
theorem dtJ9_abs_0f7a4 : dchk cJ9_abs_0f7a4 tJ9_abs_0f7a4 = true := by decide +kernel
def tJ9_max_7cf53 : List (Nat × Instr × Nat) := [(0, .iload_n 0, 1), (1, .iload_n 1, 1), (2, .if_icmp .lt 7, 3), (5, .iload_n 0, 1), (6, .goto 4, 3), (9, .iload_n 1, 1), (10, .ireturn, 1)]
theorem dtJ9_max_7cf53 : dchk cJ9_max_7cf53 tJ9_max_7cf53 = true := by decide +kernel
def tJ9_min_7cf53 : List (Nat × Instr × Nat) := [(0, .iload_n 0, 1), (1, .iload_n 1, 1), (2, .if_icmp .gt 7, 3), (5, .iload_n 0, 1), (6, .goto 4, 3), (9, .iload_n 1, 1), (10, .ireturn, 1)]
theorem dtJ9_min_7cf53 : dchk cJ9_min_7cf53 tJ9_min_7cf53 = true := by decide +kernel
def tJ0_length_8abf5 : List (Nat × Instr × Nat) := [(0, .aload_n 0, 1), (1, .getfield 9, 3), (4, .arraylength, 1), (5, .aload_n 0, 1), (6, .invokevirtual 335, 3), (9, .ishr, 1), (10, .ireturn, 1)]
theorem dtJ0_length_8abf5 : dchk cJ0_length_8abf5 tJ0_length_8abf5 = true := by decide +kernel
def tJ0_charAt_5068e : List (Nat × Instr × Nat) := [(0, .aload_n 0, 1), (1, .invokevirtual 492, 3), (4, .ifCond .eq 12, 3), (7, .aload_n 0, 1), (8, .getfield 9, 3), (11, .iload_n 1, 1), (12, .invokestatic 495, 3), (15, .ireturn, 1), (16, .aload_n 0, 1), (17, .getfield 9, 3), (20, .iload_n 1, 1), (21, .invokestatic 498, 3), (24, .ireturn, 1)]
theorem dtJ0_charAt_5068e : dchk cJ0_charAt_5068e tJ0_charAt_5068e = true := by decide +kernel
def tJ0_coder_7d493 : List (Nat × Instr × Nat) := [(0, .getstatic 38, 3), (3, .ifCond .eq 10, 3), (6, .aload_n 0, 1), (7, .getfield 15, 3), (10, .goto 4, 3), (13, .iconst 1, 1), (14, .ireturn, 1)]
theorem dtJ0_coder_7d493 : dchk cJ0_coder_7d493 tJ0_coder_7d493 = true := by decide +kernel
def tJ0_isLatin1_aae02 : List (Nat × Instr × Nat) := [(0, .getstatic 38, 3), (3, .ifCond .eq 14, 3), (6, .aload_n 0, 1), (7, .getfield 15, 3), (10, .ifCond .ne 7, 3), (13, .iconst 1, 1), (14, .goto 4, 3), (17, .iconst 0, 1), (18, .ireturn, 1)]
theorem dtJ0_isLatin1_aae02 : dchk cJ0_isLatin1_aae02 tJ0_isLatin1_aae02 = true := by decide +kernel
def tJ0_checkIndex_df160 : List (Nat × Instr × Nat) := [(0, .iload_n 0, 1), (1, .iload_n 1, 1), (2, .getstatic 1053, 3), (5, .invokestatic 1059, 3), (8, .pop, 1), (9, .return_, 1)]
theorem dtJ0_checkIndex_df160 : dchk cJ0_checkIndex_df160 tJ0_checkIndex_df160 = true := by decide +kernel
def tJ1_charAt_3b067 : List (Nat × Instr × Nat) := [(0, .iload_n 1, 1), (1, .aload_n 0, 1), (2, .arraylength, 1), (3, .invokestatic 9, 3), (6, .aload_n 0, 1), (7, .iload_n 1, 1), (8, .baload, 1), (9, .sipush 255, 3), (12, .iand, 1), (13, .i2c, 1), (14, .ireturn, 1)]
theorem dtJ1_charAt_3b067 : dchk cJ1_charAt_3b067 tJ1_charAt_3b067 = true := by decide +kernel
def tJ2_getChar_3b067 : List (Nat × Instr × Nat) := [(0, .getstatic 44, 3), (3, .ifCond .ne 25, 3), (6, .iload_n 1, 1), (7, .ifCond .lt 11, 3), (10, .iload_n 1, 1), (11, .aload_n 0, 1), (12, .invokestatic 48, 3), (15, .if_icmp .lt 13, 3), (18, .new 52, 3), (21, .dup, 1), (22, .ldc 54, 2), (24, .invokespecial 56, 3), (27, .athrow, 1), (28, .iload_n 1, 1), (29, .iconst 1, 1), (30, .ishl, 1), (31, .istore_n 1, 1), (32, .aload_n 0, 1), (33, .iload_n 1, 1), (34, .iinc 1 1, 3), (37, .baload, 1), (38, .sipush 255, 3), (41, .iand, 1), (42, .getstatic 59, 3), (45, .ishl, 1), (46, .aload_n 0, 1), (47, .iload_n 1, 1), (48, .baload, 1), (49, .sipush 255, 3), (52, .iand, 1), (53, .getstatic 63, 3), (56, .ishl, 1), (57, .ior, 1), (58, .i2c, 1), (59, .ireturn, 1)]
theorem dtJ2_getChar_3b067 : dchk cJ2_getChar_3b067 tJ2_getChar_3b067 = true := by decide +kernel
def tJ2_length_9d52b : List (Nat × Instr × Nat) := [(0, .aload_n 0, 1), (1, .arraylength, 1), (2, .iconst 1, 1), (3, .ishr, 1), (4, .ireturn, 1)]
theorem dtJ2_length_9d52b : dchk cJ2_length_9d52b tJ2_length_9d52b = true := by decide +kernel
def tJ2_charAt_3b067 : List (Nat × Instr × Nat) := [(0, .iload_n 1, 1), (1, .aload_n 0, 1), (2, .invokestatic 67, 3), (5, .aload_n 0, 1), (6, .iload_n 1, 1), (7, .invokestatic 71, 3), (10, .ireturn, 1)]
theorem dtJ2_charAt_3b067 : dchk cJ2_charAt_3b067 tJ2_charAt_3b067 = true := by decide +kernel
def tJ2_checkIndex_2214a : List (Nat × Instr × Nat) := [(0, .iload_n 0, 1), (1, .aload_n 1, 1), (2, .invokestatic 48, 3), (5, .invokestatic 414, 3), (8, .return_, 1)]
theorem dtJ2_checkIndex_2214a : dchk cJ2_checkIndex_2214a tJ2_checkIndex_2214a = true := by decide +kernel
def tJ3_checkIndex_8e157 : List (Nat × Instr × Nat) := [(0, .iload_n 0, 1), (1, .ifCond .lt 8, 3), (4, .iload_n 0, 1), (5, .iload_n 1, 1), (6, .if_icmp .lt 10, 3), (9, .aload_n 2, 1), (10, .iload_n 0, 1), (11, .iload_n 1, 1), (12, .invokestatic 95, 3), (15, .athrow, 1), (16, .iload_n 0, 1), (17, .ireturn, 1)]
theorem dtJ3_checkIndex_8e157 : dchk cJ3_checkIndex_8e157 tJ3_checkIndex_8e157 = true := by decide +kernel
def tL_law_0 : List (Nat × Instr × Nat) := [(0, .new 7, 3), (3, .dup, 1), (4, .invokespecial 9, 3), (7, .astore_n 1, 1), (8, .new 10, 3), (11, .dup, 1), (12, .invokespecial 12, 3), (15, .astore_n 2, 1), (16, .iconst 0, 1), (17, .istore_n 3, 1), (18, .iload_n 3, 1), (19, .aload_n 0, 1), (20, .arraylength, 1), (21, .iconst 4, 1), (22, .isub, 1), (23, .if_icmp .gt 988, 3), (26, .aload_n 0, 1), (27, .iload_n 3, 1), (28, .iaload, 1), (29, .bipush 31, 2), (31, .iand, 1), (32, .tableswitch 973 0 30 #[140, 163, 176, 189, 202, 245, 278, 291, 314, 337, 380, 423, 456, 479, 492, 535, 558, 581, 604, 627, 650, 673, 716, 759, 792, 815, 848, 881, 904, 927, 950], 140), (172, .aload_n 1, 1), (173, .aload_n 0, 1), (174, .iload_n 3, 1), (175, .iconst 1, 1), (176, .iadd, 1), (177, .iaload, 1), (178, .invokevirtual 13, 3), (181, .aload_n 2, 1), (182, .aload_n 0, 1), (183, .iload_n 3, 1), (184, .iconst 1, 1), (185, .iadd, 1), (186, .iaload, 1), (187, .invokevirtual 17, 3), (190, .if_icmp .eq 815, 3), (193, .iconst 0, 1), (194, .ireturn, 1), (195, .aload_n 1, 1), (196, .invokevirtual 18, 3), (199, .aload_n 2, 1), (200, .invokevirtual 22, 3), (203, .if_icmp .eq 802, 3), (206, .iconst 0, 1), (207, .ireturn, 1), (208, .aload_n 1, 1), (209, .invokevirtual 23, 3), (212, .aload_n 2, 1), (213, .invokevirtual 26, 3), (216, .if_icmp .eq 789, 3), (219, .iconst 0, 1), (220, .ireturn, 1), (221, .aload_n 1, 1), (222, .invokevirtual 27, 3), (225, .aload_n 2, 1), (226, .invokevirtual 30, 3), (229, .if_icmp .eq 776, 3), (232, .iconst 0, 1), (233, .ireturn, 1), (234, .aload_n 1, 1), (235, .aload_n 0, 1), (236, .iload_n 3, 1), (237, .iconst 1, 1)]
theorem dtL_law_0 : dchk cL_law tL_law_0 = true := by decide +kernel
def tL_law_1 : List (Nat × Instr × Nat) := [(238, .iadd, 1), (239, .iaload, 1), (240, .aload_n 0, 1), (241, .iload_n 3, 1), (242, .iconst 2, 1), (243, .iadd, 1), (244, .iaload, 1), (245, .aload_n 0, 1), (246, .iload_n 3, 1), (247, .iconst 3, 1), (248, .iadd, 1), (249, .iaload, 1), (250, .invokevirtual 31, 3), (253, .aload_n 2, 1), (254, .aload_n 0, 1), (255, .iload_n 3, 1), (256, .iconst 1, 1), (257, .iadd, 1), (258, .iaload, 1), (259, .aload_n 0, 1), (260, .iload_n 3, 1), (261, .iconst 2, 1), (262, .iadd, 1), (263, .iaload, 1), (264, .aload_n 0, 1), (265, .iload_n 3, 1), (266, .iconst 3, 1), (267, .iadd, 1), (268, .iaload, 1), (269, .invokevirtual 35, 3), (272, .if_icmp .eq 733, 3), (275, .iconst 0, 1), (276, .ireturn, 1), (277, .aload_n 1, 1), (278, .aload_n 0, 1), (279, .iload_n 3, 1), (280, .iconst 1, 1), (281, .iadd, 1), (282, .iaload, 1), (283, .aload_n 0, 1), (284, .iload_n 3, 1), (285, .iconst 2, 1), (286, .iadd, 1), (287, .iaload, 1), (288, .invokevirtual 36, 3), (291, .aload_n 2, 1), (292, .aload_n 0, 1), (293, .iload_n 3, 1), (294, .iconst 1, 1), (295, .iadd, 1), (296, .iaload, 1), (297, .aload_n 0, 1), (298, .iload_n 3, 1), (299, .iconst 2, 1), (300, .iadd, 1), (301, .iaload, 1), (302, .invokevirtual 40, 3), (305, .if_icmp .eq 700, 3), (308, .iconst 0, 1), (309, .ireturn, 1), (310, .aload_n 1, 1), (311, .invokevirtual 41, 3), (314, .aload_n 2, 1), (315, .invokevirtual 44, 3)]
theorem dtL_law_1 : dchk cL_law tL_law_1 = true := by decide +kernel
def tL_law_2 : List (Nat × Instr × Nat) := [(318, .if_icmp .eq 687, 3), (321, .iconst 0, 1), (322, .ireturn, 1), (323, .aload_n 1, 1), (324, .aload_n 0, 1), (325, .iload_n 3, 1), (326, .iconst 1, 1), (327, .iadd, 1), (328, .iaload, 1), (329, .invokevirtual 45, 3), (332, .aload_n 2, 1), (333, .aload_n 0, 1), (334, .iload_n 3, 1), (335, .iconst 1, 1), (336, .iadd, 1), (337, .iaload, 1), (338, .invokevirtual 48, 3), (341, .if_icmp .eq 664, 3), (344, .iconst 0, 1), (345, .ireturn, 1), (346, .aload_n 1, 1), (347, .aload_n 0, 1), (348, .iload_n 3, 1), (349, .iconst 1, 1), (350, .iadd, 1), (351, .iaload, 1), (352, .invokevirtual 49, 3), (355, .aload_n 2, 1), (356, .aload_n 0, 1), (357, .iload_n 3, 1), (358, .iconst 1, 1), (359, .iadd, 1), (360, .iaload, 1), (361, .invokevirtual 52, 3), (364, .if_icmp .eq 641, 3), (367, .iconst 0, 1), (368, .ireturn, 1), (369, .aload_n 1, 1), (370, .aload_n 0, 1), (371, .iload_n 3, 1), (372, .iconst 1, 1), (373, .iadd, 1), (374, .iaload, 1), (375, .aload_n 0, 1), (376, .iload_n 3, 1), (377, .iconst 2, 1), (378, .iadd, 1), (379, .iaload, 1), (380, .aload_n 0, 1), (381, .iload_n 3, 1), (382, .iconst 3, 1), (383, .iadd, 1), (384, .iaload, 1), (385, .invokevirtual 53, 3), (388, .aload_n 2, 1), (389, .aload_n 0, 1), (390, .iload_n 3, 1), (391, .iconst 1, 1), (392, .iadd, 1), (393, .iaload, 1), (394, .aload_n 0, 1), (395, .iload_n 3, 1), (396, .iconst 2, 1), (397, .iadd, 1)]
theorem dtL_law_2 : dchk cL_law tL_law_2 = true := by decide +kernel
def tL_law_3 : List (Nat × Instr × Nat) := [(398, .iaload, 1), (399, .aload_n 0, 1), (400, .iload_n 3, 1), (401, .iconst 3, 1), (402, .iadd, 1), (403, .iaload, 1), (404, .invokevirtual 56, 3), (407, .if_icmp .eq 598, 3), (410, .iconst 0, 1), (411, .ireturn, 1), (412, .aload_n 1, 1), (413, .aload_n 0, 1), (414, .iload_n 3, 1), (415, .iconst 1, 1), (416, .iadd, 1), (417, .iaload, 1), (418, .aload_n 0, 1), (419, .iload_n 3, 1), (420, .iconst 2, 1), (421, .iadd, 1), (422, .iaload, 1), (423, .aload_n 0, 1), (424, .iload_n 3, 1), (425, .iconst 3, 1), (426, .iadd, 1), (427, .iaload, 1), (428, .invokevirtual 57, 3), (431, .aload_n 2, 1), (432, .aload_n 0, 1), (433, .iload_n 3, 1), (434, .iconst 1, 1), (435, .iadd, 1), (436, .iaload, 1), (437, .aload_n 0, 1), (438, .iload_n 3, 1), (439, .iconst 2, 1), (440, .iadd, 1), (441, .iaload, 1), (442, .aload_n 0, 1), (443, .iload_n 3, 1), (444, .iconst 3, 1), (445, .iadd, 1), (446, .iaload, 1), (447, .invokevirtual 60, 3), (450, .if_icmp .eq 555, 3), (453, .iconst 0, 1), (454, .ireturn, 1), (455, .aload_n 1, 1), (456, .aload_n 0, 1), (457, .iload_n 3, 1), (458, .iconst 1, 1), (459, .iadd, 1), (460, .iaload, 1), (461, .aload_n 0, 1), (462, .iload_n 3, 1), (463, .iconst 2, 1), (464, .iadd, 1), (465, .iaload, 1), (466, .invokevirtual 61, 3), (469, .aload_n 2, 1), (470, .aload_n 0, 1), (471, .iload_n 3, 1), (472, .iconst 1, 1), (473, .iadd, 1)]
theorem dtL_law_3 : dchk cL_law tL_law_3 = true := by decide +kernel
def tL_law_4 : List (Nat × Instr × Nat) := [(474, .iaload, 1), (475, .aload_n 0, 1), (476, .iload_n 3, 1), (477, .iconst 2, 1), (478, .iadd, 1), (479, .iaload, 1), (480, .invokevirtual 64, 3), (483, .if_icmp .eq 522, 3), (486, .iconst 0, 1), (487, .ireturn, 1), (488, .aload_n 1, 1), (489, .aload_n 0, 1), (490, .iload_n 3, 1), (491, .iconst 1, 1), (492, .iadd, 1), (493, .iaload, 1), (494, .invokevirtual 65, 3), (497, .aload_n 2, 1), (498, .aload_n 0, 1), (499, .iload_n 3, 1), (500, .iconst 1, 1), (501, .iadd, 1), (502, .iaload, 1), (503, .invokevirtual 68, 3), (506, .if_icmp .eq 499, 3), (509, .iconst 0, 1), (510, .ireturn, 1), (511, .aload_n 1, 1), (512, .invokevirtual 69, 3), (515, .aload_n 2, 1), (516, .invokevirtual 72, 3), (519, .if_icmp .eq 486, 3), (522, .iconst 0, 1), (523, .ireturn, 1), (524, .aload_n 1, 1), (525, .aload_n 0, 1), (526, .iload_n 3, 1), (527, .iconst 1, 1), (528, .iadd, 1), (529, .iaload, 1), (530, .aload_n 0, 1), (531, .iload_n 3, 1), (532, .iconst 2, 1), (533, .iadd, 1), (534, .iaload, 1), (535, .aload_n 0, 1), (536, .iload_n 3, 1), (537, .iconst 3, 1), (538, .iadd, 1), (539, .iaload, 1), (540, .invokevirtual 73, 3), (543, .aload_n 2, 1), (544, .aload_n 0, 1), (545, .iload_n 3, 1), (546, .iconst 1, 1), (547, .iadd, 1), (548, .iaload, 1), (549, .aload_n 0, 1), (550, .iload_n 3, 1), (551, .iconst 2, 1), (552, .iadd, 1), (553, .iaload, 1), (554, .aload_n 0, 1), (555, .iload_n 3, 1)]
theorem dtL_law_4 : dchk cL_law tL_law_4 = true := by decide +kernel
def tL_law_5 : List (Nat × Instr × Nat) := [(556, .iconst 3, 1), (557, .iadd, 1), (558, .iaload, 1), (559, .invokevirtual 76, 3), (562, .if_icmp .eq 443, 3), (565, .iconst 0, 1), (566, .ireturn, 1), (567, .aload_n 1, 1), (568, .aload_n 0, 1), (569, .iload_n 3, 1), (570, .iconst 1, 1), (571, .iadd, 1), (572, .iaload, 1), (573, .invokevirtual 77, 3), (576, .aload_n 2, 1), (577, .aload_n 0, 1), (578, .iload_n 3, 1), (579, .iconst 1, 1), (580, .iadd, 1), (581, .iaload, 1), (582, .invokevirtual 80, 3), (585, .if_icmp .eq 420, 3), (588, .iconst 0, 1), (589, .ireturn, 1), (590, .aload_n 1, 1), (591, .aload_n 0, 1), (592, .iload_n 3, 1), (593, .iconst 1, 1), (594, .iadd, 1), (595, .iaload, 1), (596, .invokevirtual 81, 3), (599, .aload_n 2, 1), (600, .aload_n 0, 1), (601, .iload_n 3, 1), (602, .iconst 1, 1), (603, .iadd, 1), (604, .iaload, 1), (605, .invokevirtual 84, 3), (608, .if_icmp .eq 397, 3), (611, .iconst 0, 1), (612, .ireturn, 1), (613, .aload_n 1, 1), (614, .aload_n 0, 1), (615, .iload_n 3, 1), (616, .iconst 1, 1), (617, .iadd, 1), (618, .iaload, 1), (619, .invokevirtual 85, 3), (622, .aload_n 2, 1), (623, .aload_n 0, 1), (624, .iload_n 3, 1), (625, .iconst 1, 1), (626, .iadd, 1), (627, .iaload, 1), (628, .invokevirtual 88, 3), (631, .if_icmp .eq 374, 3), (634, .iconst 0, 1), (635, .ireturn, 1), (636, .aload_n 1, 1), (637, .aload_n 0, 1), (638, .iload_n 3, 1), (639, .iconst 1, 1), (640, .iadd, 1), (641, .iaload, 1)]
theorem dtL_law_5 : dchk cL_law tL_law_5 = true := by decide +kernel
def tL_law_6 : List (Nat × Instr × Nat) := [(642, .invokevirtual 89, 3), (645, .aload_n 2, 1), (646, .aload_n 0, 1), (647, .iload_n 3, 1), (648, .iconst 1, 1), (649, .iadd, 1), (650, .iaload, 1), (651, .invokevirtual 92, 3), (654, .if_icmp .eq 351, 3), (657, .iconst 0, 1), (658, .ireturn, 1), (659, .aload_n 1, 1), (660, .aload_n 0, 1), (661, .iload_n 3, 1), (662, .iconst 1, 1), (663, .iadd, 1), (664, .iaload, 1), (665, .invokevirtual 93, 3), (668, .aload_n 2, 1), (669, .aload_n 0, 1), (670, .iload_n 3, 1), (671, .iconst 1, 1), (672, .iadd, 1), (673, .iaload, 1), (674, .invokevirtual 96, 3), (677, .if_icmp .eq 328, 3), (680, .iconst 0, 1), (681, .ireturn, 1), (682, .aload_n 1, 1), (683, .aload_n 0, 1), (684, .iload_n 3, 1), (685, .iconst 1, 1), (686, .iadd, 1), (687, .iaload, 1), (688, .invokevirtual 97, 3), (691, .aload_n 2, 1), (692, .aload_n 0, 1), (693, .iload_n 3, 1), (694, .iconst 1, 1), (695, .iadd, 1), (696, .iaload, 1), (697, .invokevirtual 100, 3), (700, .if_icmp .eq 305, 3), (703, .iconst 0, 1), (704, .ireturn, 1), (705, .aload_n 1, 1), (706, .aload_n 0, 1), (707, .iload_n 3, 1), (708, .iconst 1, 1), (709, .iadd, 1), (710, .iaload, 1), (711, .aload_n 0, 1), (712, .iload_n 3, 1), (713, .iconst 2, 1), (714, .iadd, 1), (715, .iaload, 1), (716, .aload_n 0, 1), (717, .iload_n 3, 1), (718, .iconst 3, 1), (719, .iadd, 1), (720, .iaload, 1), (721, .invokevirtual 101, 3), (724, .aload_n 2, 1), (725, .aload_n 0, 1)]
theorem dtL_law_6 : dchk cL_law tL_law_6 = true := by decide +kernel
def tL_law_7 : List (Nat × Instr × Nat) := [(726, .iload_n 3, 1), (727, .iconst 1, 1), (728, .iadd, 1), (729, .iaload, 1), (730, .aload_n 0, 1), (731, .iload_n 3, 1), (732, .iconst 2, 1), (733, .iadd, 1), (734, .iaload, 1), (735, .aload_n 0, 1), (736, .iload_n 3, 1), (737, .iconst 3, 1), (738, .iadd, 1), (739, .iaload, 1), (740, .invokevirtual 104, 3), (743, .if_icmp .eq 262, 3), (746, .iconst 0, 1), (747, .ireturn, 1), (748, .aload_n 1, 1), (749, .aload_n 0, 1), (750, .iload_n 3, 1), (751, .iconst 1, 1), (752, .iadd, 1), (753, .iaload, 1), (754, .aload_n 0, 1), (755, .iload_n 3, 1), (756, .iconst 2, 1), (757, .iadd, 1), (758, .iaload, 1), (759, .aload_n 0, 1), (760, .iload_n 3, 1), (761, .iconst 3, 1), (762, .iadd, 1), (763, .iaload, 1), (764, .invokevirtual 105, 3), (767, .aload_n 2, 1), (768, .aload_n 0, 1), (769, .iload_n 3, 1), (770, .iconst 1, 1), (771, .iadd, 1), (772, .iaload, 1), (773, .aload_n 0, 1), (774, .iload_n 3, 1), (775, .iconst 2, 1), (776, .iadd, 1), (777, .iaload, 1), (778, .aload_n 0, 1), (779, .iload_n 3, 1), (780, .iconst 3, 1), (781, .iadd, 1), (782, .iaload, 1), (783, .invokevirtual 108, 3), (786, .if_icmp .eq 219, 3), (789, .iconst 0, 1), (790, .ireturn, 1), (791, .aload_n 1, 1), (792, .aload_n 0, 1), (793, .iload_n 3, 1), (794, .iconst 1, 1), (795, .iadd, 1), (796, .iaload, 1), (797, .aload_n 0, 1), (798, .iload_n 3, 1), (799, .iconst 2, 1)]
theorem dtL_law_7 : dchk cL_law tL_law_7 = true := by decide +kernel
def tL_law_8 : List (Nat × Instr × Nat) := [(800, .iadd, 1), (801, .iaload, 1), (802, .invokevirtual 109, 3), (805, .aload_n 2, 1), (806, .aload_n 0, 1), (807, .iload_n 3, 1), (808, .iconst 1, 1), (809, .iadd, 1), (810, .iaload, 1), (811, .aload_n 0, 1), (812, .iload_n 3, 1), (813, .iconst 2, 1), (814, .iadd, 1), (815, .iaload, 1), (816, .invokevirtual 112, 3), (819, .if_icmp .eq 186, 3), (822, .iconst 0, 1), (823, .ireturn, 1), (824, .aload_n 1, 1), (825, .aload_n 0, 1), (826, .iload_n 3, 1), (827, .iconst 1, 1), (828, .iadd, 1), (829, .iaload, 1), (830, .invokevirtual 113, 3), (833, .aload_n 2, 1), (834, .aload_n 0, 1), (835, .iload_n 3, 1), (836, .iconst 1, 1), (837, .iadd, 1), (838, .iaload, 1), (839, .invokevirtual 116, 3), (842, .if_icmp .eq 163, 3), (845, .iconst 0, 1), (846, .ireturn, 1), (847, .aload_n 1, 1), (848, .aload_n 0, 1), (849, .iload_n 3, 1), (850, .iconst 1, 1), (851, .iadd, 1), (852, .iaload, 1), (853, .aload_n 0, 1), (854, .iload_n 3, 1), (855, .iconst 2, 1), (856, .iadd, 1), (857, .iaload, 1), (858, .invokevirtual 117, 3), (861, .aload_n 2, 1), (862, .aload_n 0, 1), (863, .iload_n 3, 1), (864, .iconst 1, 1), (865, .iadd, 1), (866, .iaload, 1), (867, .aload_n 0, 1), (868, .iload_n 3, 1), (869, .iconst 2, 1), (870, .iadd, 1), (871, .iaload, 1), (872, .invokevirtual 120, 3), (875, .if_icmp .eq 130, 3), (878, .iconst 0, 1), (879, .ireturn, 1), (880, .aload_n 1, 1), (881, .aload_n 0, 1)]
theorem dtL_law_8 : dchk cL_law tL_law_8 = true := by decide +kernel
def tL_law_9 : List (Nat × Instr × Nat) := [(882, .iload_n 3, 1), (883, .iconst 1, 1), (884, .iadd, 1), (885, .iaload, 1), (886, .aload_n 0, 1), (887, .iload_n 3, 1), (888, .iconst 2, 1), (889, .iadd, 1), (890, .iaload, 1), (891, .invokevirtual 121, 3), (894, .aload_n 2, 1), (895, .aload_n 0, 1), (896, .iload_n 3, 1), (897, .iconst 1, 1), (898, .iadd, 1), (899, .iaload, 1), (900, .aload_n 0, 1), (901, .iload_n 3, 1), (902, .iconst 2, 1), (903, .iadd, 1), (904, .iaload, 1), (905, .invokevirtual 124, 3), (908, .if_icmp .eq 97, 3), (911, .iconst 0, 1), (912, .ireturn, 1), (913, .aload_n 1, 1), (914, .aload_n 0, 1), (915, .iload_n 3, 1), (916, .iconst 1, 1), (917, .iadd, 1), (918, .iaload, 1), (919, .invokevirtual 125, 3), (922, .aload_n 2, 1), (923, .aload_n 0, 1), (924, .iload_n 3, 1), (925, .iconst 1, 1), (926, .iadd, 1), (927, .iaload, 1), (928, .invokevirtual 128, 3), (931, .if_icmp .eq 74, 3), (934, .iconst 0, 1), (935, .ireturn, 1), (936, .aload_n 1, 1), (937, .aload_n 0, 1), (938, .iload_n 3, 1), (939, .iconst 1, 1), (940, .iadd, 1), (941, .iaload, 1), (942, .invokevirtual 129, 3), (945, .aload_n 2, 1), (946, .aload_n 0, 1), (947, .iload_n 3, 1), (948, .iconst 1, 1), (949, .iadd, 1), (950, .iaload, 1), (951, .invokevirtual 132, 3), (954, .if_icmp .eq 51, 3), (957, .iconst 0, 1), (958, .ireturn, 1), (959, .aload_n 1, 1), (960, .aload_n 0, 1), (961, .iload_n 3, 1), (962, .iconst 1, 1), (963, .iadd, 1)]
theorem dtL_law_9 : dchk cL_law tL_law_9 = true := by decide +kernel
def tL_law_10 : List (Nat × Instr × Nat) := [(964, .iaload, 1), (965, .invokevirtual 133, 3), (968, .aload_n 2, 1), (969, .aload_n 0, 1), (970, .iload_n 3, 1), (971, .iconst 1, 1), (972, .iadd, 1), (973, .iaload, 1), (974, .invokevirtual 136, 3), (977, .if_icmp .eq 28, 3), (980, .iconst 0, 1), (981, .ireturn, 1), (982, .aload_n 1, 1), (983, .aload_n 0, 1), (984, .iload_n 3, 1), (985, .iconst 1, 1), (986, .iadd, 1), (987, .iaload, 1), (988, .invokevirtual 137, 3), (991, .aload_n 2, 1), (992, .aload_n 0, 1), (993, .iload_n 3, 1), (994, .iconst 1, 1), (995, .iadd, 1), (996, .iaload, 1), (997, .invokevirtual 140, 3), (1000, .if_icmp .eq 5, 3), (1003, .iconst 0, 1), (1004, .ireturn, 1), (1005, .iinc 3 4, 3), (1008, .goto (-990), 3), (1011, .iconst 1, 1), (1012, .ireturn, 1)]
theorem dtL_law_10 : dchk cL_law tL_law_10 = true := by decide +kernel
end
section
/-! whole numbers as the machine's ints: every int is iI z; sums, differences, products need no bound; compares, quotients, places do -/
def iI (z : Int) : Int32 := Int32.ofInt z
def lL (z : Int) : Int64 := Int64.ofInt z
abbrev inR (z : Int) : Prop := -2147483648 ≤ z ∧ z < 2147483648
theorem iI_add (a b : Int) : iI a + iI b = iI (a + b) := (Int32.ofInt_add a b).symm
theorem iI_sub (a b : Int) : iI a - iI b = iI (a - b) := (Int32.ofInt_sub a b).symm
theorem iI_mul (a b : Int) : iI a * iI b = iI (a * b) := (Int32.ofInt_mul a b).symm
theorem iI_neg (a : Int) : -iI a = iI (-a) := (Int32.ofInt_neg a).symm
theorem iI_of (x : Int32) : iI x.toInt = x := Int32.ofInt_toInt x
theorem iI_toInt {z : Int} (h : inR z) : (iI z).toInt = z := Int32.toInt_ofInt_of_le (by have := h.1; omega) (by have := h.2; omega)
theorem inR_toInt (x : Int32) : inR x.toInt := by
  have h1 := Int32.le_toInt x
  have h2 := Int32.toInt_lt x
  unfold inR
  constructor <;> omega
theorem iI_inj {a b : Int} (ha : inR a) (hb : inR b) : iI a = iI b ↔ a = b := by
  constructor
  · intro h
    rw [← iI_toInt ha, ← iI_toInt hb, h]
  · intro h; rw [h]
theorem iI_lt {a b : Int} (ha : inR a) (hb : inR b) : iI a < iI b ↔ a < b := by
  rw [Int32.lt_iff_toInt_lt, iI_toInt ha, iI_toInt hb]
theorem iI_le {a b : Int} (ha : inR a) (hb : inR b) : iI a ≤ iI b ↔ a ≤ b := by
  rw [Int32.le_iff_toInt_le, iI_toInt ha, iI_toInt hb]
theorem iI_zero : iI 0 = 0 := rfl
theorem inR_0 : inR 0 := by unfold inR; omega
theorem iI_div {a b : Int} (ha : inR a) (hb : inR b) : iI a / iI b = iI (a.tdiv b) := by
  apply Int32.toInt.inj
  rw [Int32.toInt_div, iI_toInt ha, iI_toInt hb]
  unfold iI
  rw [Int32.toInt_ofInt]
theorem iI_rem {a b : Int} (ha : inR a) (hb : inR b) : iI a - iI a / iI b * iI b = iI (a.tmod b) := by
  rw [iI_div ha hb, iI_mul, iI_sub]
  congr 1
  have := Int.tmod_add_mul_tdiv a b
  rw [Int.mul_comm] at this
  omega
theorem iI_clamp {z : Int} (h : inR z) : (iI z).toNatClampNeg = z.toNat := by
  show (iI z).toInt.toNat = _
  rw [iI_toInt h]
theorem iI_in {z : Int} {n : Nat} (h0 : 0 ≤ z) (h1 : z < n) (hR : inR z) : vp_in (iI z) n := by
  rw [vp_in_iff, iI_toInt hR]; exact ⟨h0, h1⟩
theorem nI_iI (n : Nat) : nI n = iI n := by
  unfold nI iI
  exact Int32.ofInt_eq_ofNat.symm
theorem iI_long {z : Int} (h : inR z) : (iI z).toInt64 = lL z := by
  apply Int64.toInt.inj
  rw [Int32.toInt_toInt64, iI_toInt h]
  unfold lL
  obtain ⟨h1, h2⟩ := h
  rw [Int64.toInt_ofInt_of_le (by omega) (by omega)]
theorem lL_toInt {z : Int} (h : inR z) : (lL z).toInt = z := by
  obtain ⟨h1, h2⟩ := h
  exact Int64.toInt_ofInt_of_le (by omega) (by omega)
theorem lL_cmp {a b : Int} (ha : inR a) (hb : inR b) : lg_cmp (lL a) (lL b) = iI (if b < a then 1 else if a = b then 0 else -1) := by
  unfold lg_cmp
  have e1 : (lL a > lL b) ↔ b < a := by
    show lL b < lL a ↔ _
    rw [Int64.lt_iff_toInt_lt, lL_toInt ha, lL_toInt hb]
  have e2 : (lL a = lL b) ↔ a = b := by
    constructor
    · intro h; rw [← lL_toInt ha, ← lL_toInt hb, h]
    · intro h; rw [h]
  by_cases h1 : b < a
  · rw [if_pos (e1.mpr h1), if_pos h1]; rfl
  · rw [if_neg (fun h => h1 (e1.mp h)), if_neg h1]
    by_cases h2 : a = b
    · rw [if_pos (e2.mpr h2), if_pos h2]; rfl
    · rw [if_neg (fun h => h2 (e2.mp h)), if_neg h2]; rfl
def upI {α : Type} (f : Int → α) (k : Int) (x : α) : Int → α := fun j => if j = k then x else f j
theorem upI_s {α : Type} {f : Int → α} {k : Int} {x : α} : upI f k x k = x := if_pos rfl
theorem upI_n {α : Type} {f : Int → α} {k j : Int} {x : α} (h : j ≠ k) : upI f k x j = f j := if_neg h
/-! the pure heap: places 0, 1 .. ; an int array (kind, length, numbers), an array of references (kind, length, places), an object (class, fields) -/
abbrev PC : Type := (Nat × Nat × ((Int → Int) ⊕ (Int → Option Nat))) ⊕ (Nat × List Value)
abbrev PH : Type := Nat → PC
abbrev pcI (t n : Nat) (f : Int → Int) : PC := .inl (t, n, .inl f)
abbrev pcR (t n : Nat) (g : Int → Option Nat) : PC := .inl (t, n, .inr g)
abbrev pcO (ci : Nat) (fs : List Value) : PC := .inr (ci, fs)
abbrev vI (z : Int) : Value := .int (iI z)
abbrev vL (z : Int) : Value := .long (lL z)
abbrev vR (k : Nat) : Value := .ref k
def up (σ : PH) (q : Nat) (e : PC) : PH := fun j => if j = q then e else σ j
theorem up_s {σ : PH} {q : Nat} {e : PC} : up σ q e q = e := if_pos rfl
theorem up_n {σ : PH} {q j : Nat} {e : PC} (h : j ≠ q) : up σ q e j = σ j := if_neg h
theorem up_up {σ : PH} {q : Nat} {e e' : PC} : up (up σ q e) q e' = up σ q e' := by
  funext j; unfold up; split <;> simp_all
theorem up_id {σ : PH} {q : Nat} {e : PC} (h : σ q = e) : up σ q e = σ := by
  funext j; unfold up; split
  · next h1 => rw [h1, h]
  · rfl
def cvv (ρ : Nat → Nat) : Value → Value
  | .ref k => .ref (ρ k)
  | v => v
theorem cvv_cat (ρ : Nat → Nat) (v : Value) : (cvv ρ v).category = v.category := by cases v <;> rfl
def cE (ρ : Nat → Nat) (cy : Nat → ClassId) : PC → va_E
  | .inl (t, n, .inl f) => .inl (cy t, n, .inl (fun j : Nat => iI (f (j : Int))))
  | .inl (t, n, .inr g) => .inl (cy t, n, .inr (.inr (.inr (.inr (fun j : Nat => (g (j : Int)).map ρ)))))
  | .inr (ci, fs) => .inr (ci, fs.map (cvv ρ))
/-! locals: a row with holes -/
def Lv (ρ : Nat → Nat) (ls : Array Slot) (nL : Nat) (L : List (Option Value)) : Prop :=
  ls.size = nL ∧ lv_wf ls ∧ ∀ (i : Nat) (v : Value), L[i]? = some (some v) → ls[i]? = some (.val (cvv ρ v))
def noLong (L : List (Option Value)) : Bool := L.all fun o => match o with
  | some (.long _) => false
  | some (.double _) => false
  | _ => true
def aL (ρ : Nat → Nat) (L : List (Option Value)) : List (Nat × Value) := (List.range L.length).filterMap fun i => match L[i]? with
  | some (some v) => some (i, cvv ρ v)
  | _ => none
theorem aL_mem {ρ : Nat → Nat} {L : List (Option Value)} {q : Nat × Value} : q ∈ aL ρ L ↔ ∃ v, L[q.1]? = some (some v) ∧ q.2 = cvv ρ v := by
  unfold aL
  rw [List.mem_filterMap]
  constructor
  · rintro ⟨i, -, h⟩
    split at h
    · next v hv => cases h; exact ⟨v, hv, rfl⟩
    · cases h
  · rintro ⟨v, h1, h2⟩
    refine ⟨q.1, List.mem_range.mpr (List.getElem?_eq_some_iff.mp h1).1, ?_⟩
    rw [h1]
    show some (q.1, cvv ρ v) = some q
    rw [← h2]
theorem Lv.has {ρ : Nat → Nat} {ls : Array Slot} {nL : Nat} {L : List (Option Value)} (h : Lv ρ ls nL L) : lv_has ls nL (aL ρ L) := by
  refine ⟨h.1, h.2.1, fun q hq => ?_⟩
  obtain ⟨v, h1, h2⟩ := aL_mem.mp hq
  rw [h2]
  exact h.2.2 _ _ h1
theorem noLong_at {L : List (Option Value)} (h : noLong L = true) {i : Nat} {v : Value} (hv : L[i]? = some (some v)) : v.category ≠ 2 := by
  have h1 := List.all_eq_true.mp h _ (List.mem_of_getElem? hv)
  cases v <;> first | (intro h2; cases h2; done) | (simp at h1; done)
theorem Lv.set {ρ : Nat → Nat} {ls' : Array Slot} {nL i : Nat} {L : List (Option Value)} {v : Value} (hn : noLong L = true)
    (h : lv_has ls' nL ((i, cvv ρ v) :: (aL ρ L).filter (fun q => !(q.1 == i) && !(q.1 + 1 == i && q.2.category == 2)))) : Lv ρ ls' nL (L.set i (some v)) := by
  refine ⟨h.1, h.2.1, fun j w hj => ?_⟩
  by_cases hji : j = i
  · subst hji
    have hlt : j < L.length := by
      have := (List.getElem?_eq_some_iff.mp hj).1
      simpa using this
    rw [List.getElem?_set_self hlt] at hj
    obtain rfl : v = w := Option.some.inj (Option.some.inj hj)
    exact h.2.2 (j, cvv ρ v) List.mem_cons_self
  · rw [List.getElem?_set_ne (Ne.symm hji)] at hj
    refine h.2.2 (j, cvv ρ w) (List.mem_cons_of_mem _ (List.mem_filter.mpr ⟨aL_mem.mpr ⟨w, hj, rfl⟩, ?_⟩))
    have h2 := noLong_at hn hj
    have h3 : (cvv ρ w).category ≠ 2 := by rw [cvv_cat]; exact h2
    simp [hji, h3]
end
section
/-! THE CALCULUS: pure states (locals, stack, heap by places), a judgement P for a place in a method's body, Call for a method -/
def TW : List Cond := lw_tbl.filter goodWord
theorem TW_lw {w : Cond} (h : w ∈ TW) : w ∈ lw_tbl := (List.mem_filter.mp h).1
theorem TW_good {w : Cond} (h : w ∈ TW) : goodWord w = true := (List.mem_filter.mp h).2
/-- what is one for the whole run: launch, the first address of ours, class numbers, slots, array classes, the texts' addresses, their rows, the script -/
abbrev CM : Type := Launch × Nat × (Nat → ClassId) × (Nat → Nat → Nat) × (Nat → ClassId) × (Nat → Nat) × (Nat → Nat) × Nat
abbrev CM.l (x : CM) : Launch := x.1
abbrev CM.base (x : CM) : Nat := x.2.1
abbrev CM.dC (x : CM) : Nat → ClassId := x.2.2.1
abbrev CM.dI (x : CM) : Nat → Nat → Nat := x.2.2.2.1
abbrev CM.cy (x : CM) : Nat → ClassId := x.2.2.2.2.1
abbrev CM.adK (x : CM) : Nat → Nat := x.2.2.2.2.2.1
abbrev CM.adV (x : CM) : Nat → Nat := x.2.2.2.2.2.2.1
abbrev CM.sc (x : CM) : Nat := x.2.2.2.2.2.2.2
def rho (x : CM) (k : Nat) : Nat := if k < 1000 then CM.base x + k else if k < 1500 then CM.adK x (k - 1000) else if k < 2000 then CM.adV x (k - 1500) else CM.sc x
def AA (x : CM) : Nat → Prop := fun q => CM.base x ≤ q
abbrev cvx (x : CM) : Value → Value := cvv (rho x)
abbrev junk : PC := pcO 99 []
def wl (x : CM) (N : Nat) (σ : PH) : va_W := (List.range N).map fun k => (CM.base x + k, cE (rho x) (CM.cy x) (σ k))
def Wd (x : CM) (N : Nat) (σ : PH) (H : Heap) : Prop := N ≤ 1000 ∧ H.size = CM.base x + N ∧ va_P (CM.dC x, CM.dI x) vwCl (wl x N σ) H ∧ ∀ k : Nat, N ≤ k → σ k = junk
abbrev tysJ (x : CM) : List (ClassId × FieldType) := [(CM.cy x 0, .int), (CM.cy x 1, .boolean), (CM.cy x 2, .object RX1), (CM.cy x 3, .object RX3)]
def nestW : List Cond := lw_tbl.filter fun w => match w with
  | .methodLinkNest .. => true
  | _ => false
abbrev lenS : List Nat := [2, 4, 4, 2]
abbrev bytS : List (List Int32) := [[117, 112], [100, 111, 119, 110], [97, 120, 105, 115], [97, 116]]
def EN (x : CM) (U : State) : Prop :=
  va_K (CM.dC x, CM.dI x) vwCl (tysJ x) U ∧ (∀ (a : String) (i : Nat) (y : MethodName) (h : String), Cond.methodLinkNest a i y h ∈ nestW → va_Nw (.methodLinkNest a i y h) U) ∧ va_AO RX1 U ∧ va_AO RX3 U ∧
  (vk_R RX1 50 "up" (CM.adK x 0) U ∧ vk_R RX1 56 "down" (CM.adK x 1) U ∧ vk_R RX1 58 "axis" (CM.adK x 2) U ∧ vk_R RX1 60 "at" (CM.adK x 3) U) ∧
  vk_S 4 lenS bytS (CM.adK x) (CM.adV x) (AA x) U U.heap ∧ va_Z "java/lang/String" "COMPACT_STRINGS" "Z" (.int 1) (AA x) U U.heap ∧ (va_Z "jdk/internal/util/Preconditions" "SIOOBE_FORMATTER" "Ljava/util/function/BiFunction;" .null (AA x) U U.heap ∨ va_Z "jdk/internal/util/Preconditions" "SIOOBE_FORMATTER" "Ljava/util/function/BiFunction;" (.ref (CM.adV x 9)) (AA x) U U.heap)
theorem EN.frames {x : CM} {U : State} (h : EN x U) (g : JFrame) (mk : MethodId) (a : Array Value) : EN x (U.calling g mk a) := by
  obtain ⟨h1, h2, h3, h4, ⟨k1, k2, k3, k4⟩, h6, h7, h8⟩ := h
  have hv : U.vm.Alike (U.calling g mk a).vm := Vm.Alike.refl U.vm
  exact ⟨va_K.moved hv h1, fun a i y h q => va_Nw.same rfl rfl (h2 a i y h q), va_AO.moved hv h3, va_AO.moved hv h4, ⟨vk_R.same rfl k1, vk_R.same rfl k2, vk_R.same rfl k3, vk_R.same rfl k4⟩, vk_S.moved hv h6, va_Z.moved hv h7, h8.imp (va_Z.moved hv) (va_Z.moved hv)⟩
theorem EN.warm {x : CM} {s U : State} {locs : List Loc} (h : EN x s) (hW : s.WarmedH U.vm) (hS : va_S (AA x) s.heap U.heap locs) : EN x U := by
  obtain ⟨h1, h2, h3, h4, ⟨k1, k2, k3, k4⟩, h6, h7, h8⟩ := h
  have hv : s.vm.Alike U.vm := hW.alike
  have hk : ∀ a : Nat, a < s.heap.size → ¬ AA x a → U.heap[a]? = s.heap[a]? := fun a q1 q2 => hS.2.1 a q1 q2
  exact ⟨va_K.moved hv h1, fun a i y h q => va_Nw.warmM hW (h2 a i y h q), va_AO.moved hv h3, va_AO.moved hv h4, ⟨vk_R.warm hW k1, vk_R.warm hW k2, vk_R.warm hW k3, vk_R.warm hW k4⟩, (vk_S.moved hv h6).kept hk, (va_Z.moved hv h7).kept hk, h8.imp (fun z => (va_Z.moved hv z).kept hk) (fun z => (va_Z.moved hv z).kept hk)⟩
/-- a method: name, bytes, locals, what it returns, is it the law -/
abbrev MI : Type := MethodName × ByteArray × Nat × Option FieldType × Bool
abbrev MI.y (M : MI) : MethodName := M.1
abbrev MI.cc (M : MI) : ByteArray := M.2.1
abbrev MI.nL (M : MI) : Nat := M.2.2.1
abbrev MI.ret (M : MI) : Option FieldType := M.2.2.2.1
abbrev MI.lw (M : MI) : Bool := M.2.2.2.2
abbrev MI.own (M : MI) : String := M.1.cls
/-- where a body stands: the run, the machine at its entry, its room, what may be made, the end that is sought -/
abbrev CX : Type := CM × Program × Env × State × MethodId × Array Value × List Frame × Method × Code × Room × Nat × Nat × (State → Prop)
abbrev CX.cm (x : CX) : CM := x.1
abbrev CX.p (x : CX) : Program := x.2.1
abbrev CX.e (x : CX) : Env := x.2.2.1
abbrev CX.s (x : CX) : State := x.2.2.2.1
abbrev CX.m (x : CX) : MethodId := x.2.2.2.2.1
abbrev CX.args (x : CX) : Array Value := x.2.2.2.2.2.1
abbrev CX.below (x : CX) : List Frame := x.2.2.2.2.2.2.1
abbrev CX.meth (x : CX) : Method := x.2.2.2.2.2.2.2.1
abbrev CX.c (x : CX) : Code := x.2.2.2.2.2.2.2.2.1
abbrev CX.R (x : CX) : Room := x.2.2.2.2.2.2.2.2.2.1
abbrev CX.mc (x : CX) : Nat := x.2.2.2.2.2.2.2.2.2.2.1
abbrev CX.ms (x : CX) : Nat := x.2.2.2.2.2.2.2.2.2.2.2.1
abbrev CX.Z (x : CX) : State → Prop := x.2.2.2.2.2.2.2.2.2.2.2.2
abbrev PQ : Type := Option Value → PH → Prop
def QQ (x : CM) (Nf : Nat) (Q : PQ) : Array Value → State → Outcome → State → Prop := fun _ st oc t =>
  (∃ (r : Option Value) (σ : PH), oc = .returned (r.map (cvx x)) ∧ Q r σ ∧ Wd x Nf σ t.heap) ∧ va_F (AA x) st t
def Rm (d mc ms : Nat) : Room := { frames := d, cells := mc, slots := ms, locals := 36 * d }
def OKx (x : CX) (d : Nat) (M : MI) (Q : PQ) : Prop :=
  (CX.p x).tables.exec = Jvm.exec ∧ (CX.c x).code = MI.cc M ∧ (CX.c x).maxLocals = MI.nL M ∧ (CX.meth x).sig.returnType = MI.ret M ∧ (CX.meth x).locks = false ∧ (CX.s x).vm.findClass (MI.own M) = some (CX.m x).cls ∧ (CX.meth x).name = (MI.y M).name ∧
  (∀ w ∈ TW, w.before (CX.args x) (CX.s x) = true) ∧ EN (CX.cm x) (CX.s x) ∧ d ≤ (CX.R x).frames ∧ 36 * d ≤ (CX.R x).locals ∧ CX.mc x ≤ (CX.R x).cells ∧ CX.ms x ≤ (CX.R x).slots ∧
  (MI.lw M = false → ∃ N0 : Nat, (CX.s x).heap.size = CM.base (CX.cm x) + N0 ∧ CX.Z x = MQ (CX.below x) (QQ (CX.cm x) (N0 + CX.mc x) Q) (CX.args x) (CX.s x) (CX.mc x) (CX.ms x) (AA (CX.cm x))) ∧ CM.base (CX.cm x) ≤ (CX.s x).heap.size
def P (x : CX) (d : Nat) (M : MI) (Q : PQ) (b : Nat × Nat) (pc : Nat) (L : List (Option Value)) (st : List Value) (N : Nat) (σ : PH) : Prop :=
  OKx x d M Q → ∀ (H : Heap) (locs : List Loc) (cells slots : Nat) (ls : Array Slot), Wd (CX.cm x) N σ H → va_S (AA (CX.cm x)) (CX.s x).heap H locs → Lv (rho (CX.cm x)) ls (MI.nL M) L → (CX.s x).heap.size + cells = CM.base (CX.cm x) + N ∧ cells + b.1 = CX.mc x → slots + b.2 ≤ CX.ms x →
    W (CX.p x) (CM.l (CX.cm x)) (CX.e x) (CX.R x) (CX.s x) (CX.m x) (CX.args x) (CX.below x) (CX.meth x) (CX.c x) H locs cells slots (CX.Z x) (F0 (CX.m x) pc ls (st.map (cvx (CX.cm x))))
def wsM (M : MI) : List Cond := .code (MI.y M) (MI.cc M) (MI.nL M) (MI.ret M) :: TW
def Call (x : CM) (d mc ms : Nat) (M : MI) (as : List Value) (N : Nat) (σ : PH) (Q : PQ) : Prop :=
  Met (CM.l x) (MI.y M) (wsM M) (Rm d mc ms) (va_Pc (as.map (cvx x)) (fun U => Wd x N σ U.heap ∧ EN x U)) (QQ x (N + mc) Q) mc ms (AA x)
section
variable {x : CX} {d : Nat} {M : MI} {Q : PQ} {b : Nat × Nat} {pc : Nat} {L : List (Option Value)} {st : List Value} {N : Nat} {σ : PH}
/-! constants -/
theorem P.iconst {n : Int} (hd : decode (MI.cc M) pc = .ok (.iconst n, 1)) (k : P x d M Q b (pc + 1) L (vI n :: st) N σ) : P x d M Q b pc L st N σ :=
  fun ok H locs cells slots ls hW hS hL h1 h2 => lv_iconst ok.1 ok.2.1 hd rfl (k ok H locs cells slots ls hW hS hL h1 h2)
theorem P.bipush {n : Int} (hd : decode (MI.cc M) pc = .ok (.bipush n, 2)) (hv : (Int8.ofInt n).toInt32 = iI n) (k : P x d M Q b (pc + 2) L (vI n :: st) N σ) : P x d M Q b pc L st N σ :=
  fun ok H locs cells slots ls hW hS hL h1 h2 => lv_bipush ok.1 ok.2.1 hd hv (k ok H locs cells slots ls hW hS hL h1 h2)
theorem P.sipush {n : Int} (hd : decode (MI.cc M) pc = .ok (.sipush n, 3)) (hv : (Int16.ofInt n).toInt32 = iI n) (k : P x d M Q b (pc + 3) L (vI n :: st) N σ) : P x d M Q b pc L st N σ :=
  fun ok H locs cells slots ls hW hS hL h1 h2 => lv_sipush ok.1 ok.2.1 hd hv (k ok H locs cells slots ls hW hS hL h1 h2)
theorem P.ldc {i : Nat} {n : Int} {v : Int32} (hd : decode (MI.cc M) pc = .ok (.ldc i, 2)) (hw : Cond.constant (MI.own M) i v ∈ TW) (hv : v = iI n) (k : P x d M Q b (pc + 2) L (vI n :: st) N σ) : P x d M Q b pc L st N σ :=
  fun ok H locs cells slots ls hW hS hL h1 h2 => lv_ldc ok.1 ok.2.1 ok.2.2.2.2.2.1 (by rw [← hv]; exact ok.2.2.2.2.2.2.2.1 _ hw) hd (k ok H locs cells slots ls hW hS hL h1 h2)
theorem P.ldcw {i : Nat} {n : Int} {v : Int32} (hd : decode (MI.cc M) pc = .ok (.ldc_w i, 3)) (hw : Cond.constant (MI.own M) i v ∈ TW) (hv : v = iI n) (k : P x d M Q b (pc + 3) L (vI n :: st) N σ) : P x d M Q b pc L st N σ :=
  fun ok H locs cells slots ls hW hS hL h1 h2 => lv_ldcw ok.1 ok.2.1 ok.2.2.2.2.2.1 (by rw [← hv]; exact ok.2.2.2.2.2.2.2.1 _ hw) hd (k ok H locs cells slots ls hW hS hL h1 h2)
theorem P.ldc2 {i : Nat} {n : Int} {v : Int64} (hd : decode (MI.cc M) pc = .ok (.ldc2_w i, 3)) (hw : Cond.constantLong (MI.own M) i v ∈ TW) (hv : v = lL n) (k : P x d M Q b (pc + 3) L (vL n :: st) N σ) : P x d M Q b pc L st N σ :=
  fun ok H locs cells slots ls hW hS hL h1 h2 => lv_ldc2 ok.1 ok.2.1 ok.2.2.2.2.2.1 (by rw [← hv]; exact ok.2.2.2.2.2.2.2.1 _ hw) hd (k ok H locs cells slots ls hW hS hL h1 h2)
theorem P.lconst {n : Fin 2} {z : Int} (hd : decode (MI.cc M) pc = .ok (.lconst n, 1)) (hv : Int64.ofNat (n : Nat) = lL z) (k : P x d M Q b (pc + 1) L (vL z :: st) N σ) : P x d M Q b pc L st N σ :=
  fun ok H locs cells slots ls hW hS hL h1 h2 => lv_lconst ok.1 ok.2.1 hd hv (k ok H locs cells slots ls hW hS hL h1 h2)
/-! locals -/
theorem P.iload_n {i : Fin 4} {z : Int} (hd : decode (MI.cc M) pc = .ok (.iload_n i, 1)) (hl : L[(i : Nat)]? = some (some (vI z))) (k : P x d M Q b (pc + 1) L (vI z :: st) N σ) : P x d M Q b pc L st N σ :=
  fun ok H locs cells slots ls hW hS hL h1 h2 => lv_iload_n ok.1 ok.2.1 hd rfl (hL.2.2 _ _ hl) (k ok H locs cells slots ls hW hS hL h1 h2)
theorem P.iload {i : Nat} {z : Int} (hd : decode (MI.cc M) pc = .ok (.iload i, 2)) (hl : L[i]? = some (some (vI z))) (k : P x d M Q b (pc + 2) L (vI z :: st) N σ) : P x d M Q b pc L st N σ :=
  fun ok H locs cells slots ls hW hS hL h1 h2 => lv_iload ok.1 ok.2.1 hd (hL.2.2 _ _ hl) (k ok H locs cells slots ls hW hS hL h1 h2)
theorem P.lload_n {i : Fin 4} {z : Int} (hd : decode (MI.cc M) pc = .ok (.lload_n i, 1)) (hl : L[(i : Nat)]? = some (some (vL z))) (k : P x d M Q b (pc + 1) L (vL z :: st) N σ) : P x d M Q b pc L st N σ :=
  fun ok H locs cells slots ls hW hS hL h1 h2 => lv_lload_n ok.1 ok.2.1 hd rfl (hL.2.2 _ _ hl) (k ok H locs cells slots ls hW hS hL h1 h2)
theorem P.lload {i : Nat} {z : Int} (hd : decode (MI.cc M) pc = .ok (.lload i, 2)) (hl : L[i]? = some (some (vL z))) (k : P x d M Q b (pc + 2) L (vL z :: st) N σ) : P x d M Q b pc L st N σ :=
  fun ok H locs cells slots ls hW hS hL h1 h2 => lv_lload ok.1 ok.2.1 hd (hL.2.2 _ _ hl) (k ok H locs cells slots ls hW hS hL h1 h2)
theorem P.aload_n {i : Fin 4} {q : Nat} (hd : decode (MI.cc M) pc = .ok (.aload_n i, 1)) (hl : L[(i : Nat)]? = some (some (vR q))) (k : P x d M Q b (pc + 1) L (vR q :: st) N σ) : P x d M Q b pc L st N σ :=
  fun ok H locs cells slots ls hW hS hL h1 h2 => lv_aload_n ok.1 ok.2.1 hd rfl (hL.2.2 _ _ hl) (k ok H locs cells slots ls hW hS hL h1 h2)
theorem P.aload {i : Nat} {q : Nat} (hd : decode (MI.cc M) pc = .ok (.aload i, 2)) (hl : L[i]? = some (some (vR q))) (k : P x d M Q b (pc + 2) L (vR q :: st) N σ) : P x d M Q b pc L st N σ :=
  fun ok H locs cells slots ls hW hS hL h1 h2 => lv_aload ok.1 ok.2.1 hd (hL.2.2 _ _ hl) (k ok H locs cells slots ls hW hS hL h1 h2)
theorem P.istore_n {i : Fin 4} {z : Int} {L' : List (Option Value)} (hd : decode (MI.cc M) pc = .ok (.istore_n i, 1)) (hi : (i : Nat) < MI.nL M) (hn : noLong L = true) (hl : L.set (i : Nat) (some (vI z)) = L') (k : P x d M Q b (pc + 1) L' st N σ) : P x d M Q b pc L (vI z :: st) N σ :=
  fun ok H locs cells slots ls hW hS hL h1 h2 => lv_istore_n ok.1 ok.2.1 hd rfl hL.has hi rfl (fun ls' h' => k ok H locs cells slots ls' hW hS (hl ▸ Lv.set (v := vI z) hn h') h1 h2)
theorem P.istore {i : Nat} {z : Int} {L' : List (Option Value)} (hd : decode (MI.cc M) pc = .ok (.istore i, 2)) (hi : i < MI.nL M) (hn : noLong L = true) (hl : L.set i (some (vI z)) = L') (k : P x d M Q b (pc + 2) L' st N σ) : P x d M Q b pc L (vI z :: st) N σ :=
  fun ok H locs cells slots ls hW hS hL h1 h2 => lv_istore ok.1 ok.2.1 hd hL.has hi rfl (fun ls' h' => k ok H locs cells slots ls' hW hS (hl ▸ Lv.set (v := vI z) hn h') h1 h2)
theorem P.astore_n {i : Fin 4} {q : Nat} {L' : List (Option Value)} (hd : decode (MI.cc M) pc = .ok (.astore_n i, 1)) (hi : (i : Nat) < MI.nL M) (hn : noLong L = true) (hl : L.set (i : Nat) (some (vR q)) = L') (k : P x d M Q b (pc + 1) L' st N σ) : P x d M Q b pc L (vR q :: st) N σ :=
  fun ok H locs cells slots ls hW hS hL h1 h2 => lv_astore_n ok.1 ok.2.1 hd rfl hL.has hi rfl (fun ls' h' => k ok H locs cells slots ls' hW hS (hl ▸ Lv.set (v := vR q) hn h') h1 h2)
theorem P.iinc {i : Nat} {n z : Int} {L' : List (Option Value)} (hd : decode (MI.cc M) pc = .ok (.iinc i n, 3)) (hz : L[i]? = some (some (vI z))) (hi : i < MI.nL M) (hn : noLong L = true) (hl : L.set i (some (vI (z + n))) = L') (k : P x d M Q b (pc + 3) L' st N σ) : P x d M Q b pc L st N σ := by
  intro ok H locs cells slots ls hW hS hL h1 h2
  obtain ⟨j, hj⟩ := List.getElem?_of_mem (aL_mem (ρ := rho (CX.cm x)) (L := L) (q := (i, vI z)) |>.mpr ⟨vI z, hz, rfl⟩)
  exact lv_iinc ok.1 ok.2.1 hd hL.has hj (iI_add z n) hi rfl (fun ls' h' => k ok H locs cells slots ls' hW hS (hl ▸ Lv.set (v := vI (z + n)) hn h') h1 h2)
/-! arithmetic -/
theorem P.iadd {a c : Int} (hd : decode (MI.cc M) pc = .ok (.iadd, 1)) (k : P x d M Q b (pc + 1) L (vI (a + c) :: st) N σ) : P x d M Q b pc L (vI c :: vI a :: st) N σ :=
  fun ok H locs cells slots ls hW hS hL h1 h2 => lv_iadd ok.1 ok.2.1 hd (by rw [iI_add]; exact k ok H locs cells slots ls hW hS hL h1 h2)
theorem P.isub {a c : Int} (hd : decode (MI.cc M) pc = .ok (.isub, 1)) (k : P x d M Q b (pc + 1) L (vI (a - c) :: st) N σ) : P x d M Q b pc L (vI c :: vI a :: st) N σ :=
  fun ok H locs cells slots ls hW hS hL h1 h2 => lv_isub ok.1 ok.2.1 hd (by rw [iI_sub]; exact k ok H locs cells slots ls hW hS hL h1 h2)
theorem P.imul {a c : Int} (hd : decode (MI.cc M) pc = .ok (.imul, 1)) (k : P x d M Q b (pc + 1) L (vI (a * c) :: st) N σ) : P x d M Q b pc L (vI c :: vI a :: st) N σ :=
  fun ok H locs cells slots ls hW hS hL h1 h2 => lv_imul ok.1 ok.2.1 hd (by rw [iI_mul]; exact k ok H locs cells slots ls hW hS hL h1 h2)
theorem P.ineg {a : Int} (hd : decode (MI.cc M) pc = .ok (.ineg, 1)) (k : P x d M Q b (pc + 1) L (vI (-a) :: st) N σ) : P x d M Q b pc L (vI a :: st) N σ :=
  fun ok H locs cells slots ls hW hS hL h1 h2 => lv_ineg ok.1 ok.2.1 hd (by rw [iI_neg]; exact k ok H locs cells slots ls hW hS hL h1 h2)
theorem P.idiv {a c : Int} (hd : decode (MI.cc M) pc = .ok (.idiv, 1)) (ha : inR a) (hc : inR c) (hne : c ≠ 0) (k : P x d M Q b (pc + 1) L (vI (a.tdiv c) :: st) N σ) : P x d M Q b pc L (vI c :: vI a :: st) N σ :=
  fun ok H locs cells slots ls hW hS hL h1 h2 => lv_idiv ok.1 ok.2.1 hd (fun h => hne ((iI_inj hc inR_0).mp h)) (by rw [iI_div ha hc]; exact k ok H locs cells slots ls hW hS hL h1 h2)
theorem P.irem {a c : Int} (hd : decode (MI.cc M) pc = .ok (.irem, 1)) (ha : inR a) (hc : inR c) (hne : c ≠ 0) (k : P x d M Q b (pc + 1) L (vI (a.tmod c) :: st) N σ) : P x d M Q b pc L (vI c :: vI a :: st) N σ :=
  fun ok H locs cells slots ls hW hS hL h1 h2 => lv_irem ok.1 ok.2.1 hd (fun h => hne ((iI_inj hc inR_0).mp h)) (by rw [iI_rem ha hc]; exact k ok H locs cells slots ls hW hS hL h1 h2)
theorem P.i2l {a : Int} (hd : decode (MI.cc M) pc = .ok (.i2l, 1)) (ha : inR a) (k : P x d M Q b (pc + 1) L (vL a :: st) N σ) : P x d M Q b pc L (vI a :: st) N σ :=
  fun ok H locs cells slots ls hW hS hL h1 h2 => lv_i2l ok.1 ok.2.1 hd (iI_long ha) (k ok H locs cells slots ls hW hS hL h1 h2)
theorem P.lcmp {a c : Int} (hd : decode (MI.cc M) pc = .ok (.lcmp, 1)) (ha : inR a) (hc : inR c) (k : P x d M Q b (pc + 1) L (vI (if c < a then 1 else if a = c then 0 else -1) :: st) N σ) : P x d M Q b pc L (vL c :: vL a :: st) N σ :=
  fun ok H locs cells slots ls hW hS hL h1 h2 => W.lcmp ok.1 ok.2.1 hd (by rw [lL_cmp ha hc]; exact k ok H locs cells slots ls hW hS hL h1 h2)
theorem P.dup {v : Value} (hd : decode (MI.cc M) pc = .ok (.dup, 1)) (hv : v.category = 1) (k : P x d M Q b (pc + 1) L (v :: v :: st) N σ) : P x d M Q b pc L (v :: st) N σ :=
  fun ok H locs cells slots ls hW hS hL h1 h2 => lv_dup ok.1 ok.2.1 hd ((cvv_cat _ v).trans hv) (k ok H locs cells slots ls hW hS hL h1 h2)
theorem P.dup2 {v w : Value} (hd : decode (MI.cc M) pc = .ok (.dup2, 1)) (hv : v.category = 1) (hw : w.category = 1) (k : P x d M Q b (pc + 1) L (v :: w :: v :: w :: st) N σ) : P x d M Q b pc L (v :: w :: st) N σ :=
  fun ok H locs cells slots ls hW hS hL h1 h2 => lv_dup2_11 ok.1 ok.2.1 hd ((cvv_cat _ v).trans hv) ((cvv_cat _ w).trans hw) (k ok H locs cells slots ls hW hS hL h1 h2)
theorem P.pop {v : Value} (hd : decode (MI.cc M) pc = .ok (.pop, 1)) (hv : v.category = 1) (k : P x d M Q b (pc + 1) L st N σ) : P x d M Q b pc L (v :: st) N σ :=
  fun ok H locs cells slots ls hW hS hL h1 h2 => lv_pop ok.1 ok.2.1 hd ((cvv_cat _ v).trans hv) (k ok H locs cells slots ls hW hS hL h1 h2)
theorem P.goto {off : Int} {t : Nat} (hd : decode (MI.cc M) pc = .ok (.goto off, 3)) (ht : (pc : Int) + off = (t : Int)) (k : P x d M Q b t L st N σ) : P x d M Q b pc L st N σ :=
  fun ok H locs cells slots ls hW hS hL h1 h2 => lv_goto ok.1 ok.2.1 hd ht (k ok H locs cells slots ls hW hS hL h1 h2)
/-! branches -/
theorem P.if_eq {a off : Int} {t : Nat} (hd : decode (MI.cc M) pc = .ok (.ifCond .eq off, 3)) (ht : (pc : Int) + off = (t : Int)) (ha : inR a) (k1 : a = 0 → P x d M Q b t L st N σ) (k2 : a ≠ 0 → P x d M Q b (pc + 3) L st N σ) : P x d M Q b pc L (vI a :: st) N σ :=
  fun ok H locs cells slots ls hW hS hL h1 h2 => lv_if_eq ok.1 ok.2.1 hd ht (fun h => k1 ((iI_inj ha inR_0).mp h) ok H locs cells slots ls hW hS hL h1 h2) (fun h => k2 (fun e => h (by rw [e]; rfl)) ok H locs cells slots ls hW hS hL h1 h2)
theorem P.if_ne {a off : Int} {t : Nat} (hd : decode (MI.cc M) pc = .ok (.ifCond .ne off, 3)) (ht : (pc : Int) + off = (t : Int)) (ha : inR a) (k1 : a ≠ 0 → P x d M Q b t L st N σ) (k2 : a = 0 → P x d M Q b (pc + 3) L st N σ) : P x d M Q b pc L (vI a :: st) N σ :=
  fun ok H locs cells slots ls hW hS hL h1 h2 => lv_if_ne ok.1 ok.2.1 hd ht (fun h => k1 (fun e => h (by rw [e]; rfl)) ok H locs cells slots ls hW hS hL h1 h2) (fun h => k2 ((iI_inj ha inR_0).mp h) ok H locs cells slots ls hW hS hL h1 h2)
theorem P.if_lt {a off : Int} {t : Nat} (hd : decode (MI.cc M) pc = .ok (.ifCond .lt off, 3)) (ht : (pc : Int) + off = (t : Int)) (ha : inR a) (k1 : a < 0 → P x d M Q b t L st N σ) (k2 : 0 ≤ a → P x d M Q b (pc + 3) L st N σ) : P x d M Q b pc L (vI a :: st) N σ :=
  fun ok H locs cells slots ls hW hS hL h1 h2 => lv_if_lt ok.1 ok.2.1 hd ht (fun h => k1 ((iI_lt ha inR_0).mp h) ok H locs cells slots ls hW hS hL h1 h2) (fun h => k2 (Int.not_lt.mp fun e => h ((iI_lt ha inR_0).mpr e)) ok H locs cells slots ls hW hS hL h1 h2)
theorem P.if_ge {a off : Int} {t : Nat} (hd : decode (MI.cc M) pc = .ok (.ifCond .ge off, 3)) (ht : (pc : Int) + off = (t : Int)) (ha : inR a) (k1 : 0 ≤ a → P x d M Q b t L st N σ) (k2 : a < 0 → P x d M Q b (pc + 3) L st N σ) : P x d M Q b pc L (vI a :: st) N σ :=
  fun ok H locs cells slots ls hW hS hL h1 h2 => lv_if_ge ok.1 ok.2.1 hd ht (fun h => k1 ((iI_le inR_0 ha).mp h) ok H locs cells slots ls hW hS hL h1 h2) (fun h => k2 (Int.not_le.mp fun e => h ((iI_le inR_0 ha).mpr e)) ok H locs cells slots ls hW hS hL h1 h2)
theorem P.if_gt {a off : Int} {t : Nat} (hd : decode (MI.cc M) pc = .ok (.ifCond .gt off, 3)) (ht : (pc : Int) + off = (t : Int)) (ha : inR a) (k1 : 0 < a → P x d M Q b t L st N σ) (k2 : a ≤ 0 → P x d M Q b (pc + 3) L st N σ) : P x d M Q b pc L (vI a :: st) N σ :=
  fun ok H locs cells slots ls hW hS hL h1 h2 => lv_if_gt ok.1 ok.2.1 hd ht (fun h => k1 ((iI_lt inR_0 ha).mp h) ok H locs cells slots ls hW hS hL h1 h2) (fun h => k2 (Int.not_lt.mp fun e => h ((iI_lt inR_0 ha).mpr e)) ok H locs cells slots ls hW hS hL h1 h2)
theorem P.if_le {a off : Int} {t : Nat} (hd : decode (MI.cc M) pc = .ok (.ifCond .le off, 3)) (ht : (pc : Int) + off = (t : Int)) (ha : inR a) (k1 : a ≤ 0 → P x d M Q b t L st N σ) (k2 : 0 < a → P x d M Q b (pc + 3) L st N σ) : P x d M Q b pc L (vI a :: st) N σ :=
  fun ok H locs cells slots ls hW hS hL h1 h2 => lv_if_le ok.1 ok.2.1 hd ht (fun h => k1 ((iI_le ha inR_0).mp h) ok H locs cells slots ls hW hS hL h1 h2) (fun h => k2 (Int.not_le.mp fun e => h ((iI_le ha inR_0).mpr e)) ok H locs cells slots ls hW hS hL h1 h2)
theorem P.icmp_eq {a c off : Int} {t : Nat} (hd : decode (MI.cc M) pc = .ok (.if_icmp .eq off, 3)) (ht : (pc : Int) + off = (t : Int)) (ha : inR a) (hc : inR c) (k1 : a = c → P x d M Q b t L st N σ) (k2 : a ≠ c → P x d M Q b (pc + 3) L st N σ) : P x d M Q b pc L (vI c :: vI a :: st) N σ :=
  fun ok H locs cells slots ls hW hS hL h1 h2 => lv_icmp_eq ok.1 ok.2.1 hd ht (fun h => k1 ((iI_inj ha hc).mp h) ok H locs cells slots ls hW hS hL h1 h2) (fun h => k2 (fun e => h (by rw [e])) ok H locs cells slots ls hW hS hL h1 h2)
theorem P.icmp_ne {a c off : Int} {t : Nat} (hd : decode (MI.cc M) pc = .ok (.if_icmp .ne off, 3)) (ht : (pc : Int) + off = (t : Int)) (ha : inR a) (hc : inR c) (k1 : a ≠ c → P x d M Q b t L st N σ) (k2 : a = c → P x d M Q b (pc + 3) L st N σ) : P x d M Q b pc L (vI c :: vI a :: st) N σ :=
  fun ok H locs cells slots ls hW hS hL h1 h2 => lv_icmp_ne ok.1 ok.2.1 hd ht (fun h => k1 (fun e => h (by rw [e])) ok H locs cells slots ls hW hS hL h1 h2) (fun h => k2 ((iI_inj ha hc).mp h) ok H locs cells slots ls hW hS hL h1 h2)
theorem P.icmp_lt {a c off : Int} {t : Nat} (hd : decode (MI.cc M) pc = .ok (.if_icmp .lt off, 3)) (ht : (pc : Int) + off = (t : Int)) (ha : inR a) (hc : inR c) (k1 : a < c → P x d M Q b t L st N σ) (k2 : c ≤ a → P x d M Q b (pc + 3) L st N σ) : P x d M Q b pc L (vI c :: vI a :: st) N σ :=
  fun ok H locs cells slots ls hW hS hL h1 h2 => lv_icmp_lt ok.1 ok.2.1 hd ht (fun h => k1 ((iI_lt ha hc).mp h) ok H locs cells slots ls hW hS hL h1 h2) (fun h => k2 (Int.not_lt.mp fun e => h ((iI_lt ha hc).mpr e)) ok H locs cells slots ls hW hS hL h1 h2)
theorem P.icmp_ge {a c off : Int} {t : Nat} (hd : decode (MI.cc M) pc = .ok (.if_icmp .ge off, 3)) (ht : (pc : Int) + off = (t : Int)) (ha : inR a) (hc : inR c) (k1 : c ≤ a → P x d M Q b t L st N σ) (k2 : a < c → P x d M Q b (pc + 3) L st N σ) : P x d M Q b pc L (vI c :: vI a :: st) N σ :=
  fun ok H locs cells slots ls hW hS hL h1 h2 => lv_icmp_ge ok.1 ok.2.1 hd ht (fun h => k1 ((iI_le hc ha).mp h) ok H locs cells slots ls hW hS hL h1 h2) (fun h => k2 (Int.not_le.mp fun e => h ((iI_le hc ha).mpr e)) ok H locs cells slots ls hW hS hL h1 h2)
theorem P.icmp_gt {a c off : Int} {t : Nat} (hd : decode (MI.cc M) pc = .ok (.if_icmp .gt off, 3)) (ht : (pc : Int) + off = (t : Int)) (ha : inR a) (hc : inR c) (k1 : c < a → P x d M Q b t L st N σ) (k2 : a ≤ c → P x d M Q b (pc + 3) L st N σ) : P x d M Q b pc L (vI c :: vI a :: st) N σ :=
  fun ok H locs cells slots ls hW hS hL h1 h2 => lv_icmp_gt ok.1 ok.2.1 hd ht (fun h => k1 ((iI_lt hc ha).mp h) ok H locs cells slots ls hW hS hL h1 h2) (fun h => k2 (Int.not_lt.mp fun e => h ((iI_lt hc ha).mpr e)) ok H locs cells slots ls hW hS hL h1 h2)
theorem P.icmp_le {a c off : Int} {t : Nat} (hd : decode (MI.cc M) pc = .ok (.if_icmp .le off, 3)) (ht : (pc : Int) + off = (t : Int)) (ha : inR a) (hc : inR c) (k1 : a ≤ c → P x d M Q b t L st N σ) (k2 : c < a → P x d M Q b (pc + 3) L st N σ) : P x d M Q b pc L (vI c :: vI a :: st) N σ :=
  fun ok H locs cells slots ls hW hS hL h1 h2 => lv_icmp_le ok.1 ok.2.1 hd ht (fun h => k1 ((iI_le ha hc).mp h) ok H locs cells slots ls hW hS hL h1 h2) (fun h => k2 (Int.not_le.mp fun e => h ((iI_le ha hc).mpr e)) ok H locs cells slots ls hW hS hL h1 h2)
theorem P.tswOut {a dflt lo hi : Int} {offs : Array Int} {len t : Nat} (hd : decode (MI.cc M) pc = .ok (.tableswitch dflt lo hi offs, len)) (ha : inR a) (h : a < lo ∨ hi < a) (ht : (pc : Int) + dflt = (t : Int)) (k : P x d M Q b t L st N σ) : P x d M Q b pc L (vI a :: st) N σ :=
  fun ok H locs cells slots ls hW hS hL h1 h2 => lv_tableOut ok.1 ok.2.1 hd (by rw [iI_toInt ha]; exact h) ht (k ok H locs cells slots ls hW hS hL h1 h2)
theorem P.tswIn {a dflt lo hi off : Int} {offs : Array Int} {len t : Nat} (hd : decode (MI.cc M) pc = .ok (.tableswitch dflt lo hi offs, len)) (ha : inR a) (h1 : lo ≤ a) (h2 : a ≤ hi) (ho : offs[(a - lo).toNat]? = some off) (ht : (pc : Int) + off = (t : Int)) (k : P x d M Q b t L st N σ) : P x d M Q b pc L (vI a :: st) N σ :=
  fun ok H locs cells slots ls hW hS hL g1 g2 => lv_tableIn ok.1 ok.2.1 hd (by rw [iI_toInt ha]; omega) (by rw [iI_toInt ha]; omega) (by rw [iI_toInt ha]; exact ho) ht (k ok H locs cells slots ls hW hS hL g1 g2)
end
end
section
theorem tw_of {w : Cond} (h : w ∈ lw_tbl) (g : goodWord w = true) : w ∈ TW := List.mem_filter.mpr ⟨h, g⟩
theorem tw_t {w : Cond} (h : w ∈ tables_1) (g : goodWord w = true) : w ∈ TW := tw_of (List.mem_append_right _ h) g
theorem tw_1 {w : Cond} (j : Nat) (h : tables_1_1[j]? = some w) (g : goodWord w = true) : w ∈ TW := tw_t (show w ∈ tables_1_1 ++ (tables_1_2 ++ (tables_1_3 ++ (tables_1_4 ++ tables_1_5))) from List.mem_append_left _ (List.mem_of_getElem? h)) g
theorem tw_2 {w : Cond} (j : Nat) (h : tables_1_2[j]? = some w) (g : goodWord w = true) : w ∈ TW := tw_t (show w ∈ tables_1_1 ++ (tables_1_2 ++ (tables_1_3 ++ (tables_1_4 ++ tables_1_5))) from List.mem_append_right _ (List.mem_append_left _ (List.mem_of_getElem? h))) g
theorem tw_3 {w : Cond} (j : Nat) (h : tables_1_3[j]? = some w) (g : goodWord w = true) : w ∈ TW := tw_t (show w ∈ tables_1_1 ++ (tables_1_2 ++ (tables_1_3 ++ (tables_1_4 ++ tables_1_5))) from List.mem_append_right _ (List.mem_append_right _ (List.mem_append_left _ (List.mem_of_getElem? h)))) g
theorem tw_4 {w : Cond} (j : Nat) (h : tables_1_4[j]? = some w) (g : goodWord w = true) : w ∈ TW := tw_t (show w ∈ tables_1_1 ++ (tables_1_2 ++ (tables_1_3 ++ (tables_1_4 ++ tables_1_5))) from List.mem_append_right _ (List.mem_append_right _ (List.mem_append_right _ (List.mem_append_left _ (List.mem_of_getElem? h))))) g
theorem tw_5 {w : Cond} (j : Nat) (h : tables_1_5[j]? = some w) (g : goodWord w = true) : w ∈ TW := tw_t (show w ∈ tables_1_1 ++ (tables_1_2 ++ (tables_1_3 ++ (tables_1_4 ++ tables_1_5))) from List.mem_append_right _ (List.mem_append_right _ (List.mem_append_right _ (List.mem_append_right _ (List.mem_of_getElem? h))))) g
theorem tw_p1 {y : MethodName} {n : Nat} (j : Nat) (h : lw_privs_1[j]? = some (y, n)) : Cond.selects y.cls y y ∈ TW := tw_of (List.mem_append_left _ (List.mem_map.mpr ⟨(y, n), show (y, n) ∈ lw_privs_1 ++ (lw_privs_2 ++ (lw_privs_3 ++ (lw_privs_4))) from List.mem_append_left _ (List.mem_of_getElem? h), rfl⟩)) rfl
theorem tw_p2 {y : MethodName} {n : Nat} (j : Nat) (h : lw_privs_2[j]? = some (y, n)) : Cond.selects y.cls y y ∈ TW := tw_of (List.mem_append_left _ (List.mem_map.mpr ⟨(y, n), show (y, n) ∈ lw_privs_1 ++ (lw_privs_2 ++ (lw_privs_3 ++ (lw_privs_4))) from List.mem_append_right _ (List.mem_append_left _ (List.mem_of_getElem? h)), rfl⟩)) rfl
theorem tw_p3 {y : MethodName} {n : Nat} (j : Nat) (h : lw_privs_3[j]? = some (y, n)) : Cond.selects y.cls y y ∈ TW := tw_of (List.mem_append_left _ (List.mem_map.mpr ⟨(y, n), show (y, n) ∈ lw_privs_1 ++ (lw_privs_2 ++ (lw_privs_3 ++ (lw_privs_4))) from List.mem_append_right _ (List.mem_append_right _ (List.mem_append_left _ (List.mem_of_getElem? h))), rfl⟩)) rfl
theorem tw_p4 {y : MethodName} {n : Nat} (j : Nat) (h : lw_privs_4[j]? = some (y, n)) : Cond.selects y.cls y y ∈ TW := tw_of (List.mem_append_left _ (List.mem_map.mpr ⟨(y, n), show (y, n) ∈ lw_privs_1 ++ (lw_privs_2 ++ (lw_privs_3 ++ (lw_privs_4))) from List.mem_append_right _ (List.mem_append_right _ (List.mem_append_right _ (List.mem_of_getElem? h))), rfl⟩)) rfl
theorem inX0 : ∀ w ∈ u_ws RX0 TX0 12, w ∈ TW := List.forall_mem_cons.mpr ⟨tw_1 165 rfl rfl, List.forall_mem_cons.mpr ⟨tw_1 167 rfl rfl, List.forall_mem_cons.mpr ⟨tw_1 169 rfl rfl, List.forall_mem_cons.mpr ⟨tw_1 171 rfl rfl, List.forall_mem_cons.mpr ⟨tw_1 173 rfl rfl, List.forall_mem_cons.mpr ⟨tw_1 175 rfl rfl, List.forall_mem_cons.mpr ⟨tw_1 177 rfl rfl, List.forall_mem_cons.mpr ⟨tw_1 179 rfl rfl, List.forall_mem_cons.mpr ⟨tw_1 181 rfl rfl, List.forall_mem_cons.mpr ⟨tw_1 183 rfl rfl, List.forall_mem_cons.mpr ⟨tw_1 185 rfl rfl, List.forall_mem_cons.mpr ⟨tw_1 187 rfl rfl, fun _ h => absurd h List.not_mem_nil⟩⟩⟩⟩⟩⟩⟩⟩⟩⟩⟩⟩
theorem inX1 : ∀ w ∈ u_ws RX1 TX1 2, w ∈ TW := List.forall_mem_cons.mpr ⟨tw_1 38 rfl rfl, List.forall_mem_cons.mpr ⟨tw_1 40 rfl rfl, fun _ h => absurd h List.not_mem_nil⟩⟩
theorem inX2 : ∀ w ∈ u_ws RX2 TX2 4, w ∈ TW := List.forall_mem_cons.mpr ⟨tw_1 89 rfl rfl, List.forall_mem_cons.mpr ⟨tw_1 91 rfl rfl, List.forall_mem_cons.mpr ⟨tw_1 93 rfl rfl, List.forall_mem_cons.mpr ⟨tw_1 95 rfl rfl, fun _ h => absurd h List.not_mem_nil⟩⟩⟩⟩
theorem inX3 : ∀ w ∈ u_ws RX3 TX3 6, w ∈ TW := List.forall_mem_cons.mpr ⟨tw_1 110 rfl rfl, List.forall_mem_cons.mpr ⟨tw_1 112 rfl rfl, List.forall_mem_cons.mpr ⟨tw_1 114 rfl rfl, List.forall_mem_cons.mpr ⟨tw_1 116 rfl rfl, List.forall_mem_cons.mpr ⟨tw_1 118 rfl rfl, List.forall_mem_cons.mpr ⟨tw_1 120 rfl rfl, fun _ h => absurd h List.not_mem_nil⟩⟩⟩⟩⟩⟩
theorem inX4 : ∀ w ∈ u_ws RX4 TX4 3, w ∈ TW := List.forall_mem_cons.mpr ⟨tw_1 136 rfl rfl, List.forall_mem_cons.mpr ⟨tw_1 138 rfl rfl, List.forall_mem_cons.mpr ⟨tw_1 140 rfl rfl, fun _ h => absurd h List.not_mem_nil⟩⟩⟩
theorem inX5 : ∀ w ∈ u_ws RX5 TX5 6, w ∈ TW := List.forall_mem_cons.mpr ⟨tw_1 57 rfl rfl, List.forall_mem_cons.mpr ⟨tw_1 59 rfl rfl, List.forall_mem_cons.mpr ⟨tw_1 61 rfl rfl, List.forall_mem_cons.mpr ⟨tw_1 63 rfl rfl, List.forall_mem_cons.mpr ⟨tw_1 65 rfl rfl, List.forall_mem_cons.mpr ⟨tw_1 67 rfl rfl, fun _ h => absurd h List.not_mem_nil⟩⟩⟩⟩⟩⟩
theorem inX6 : ∀ w ∈ u_ws RX6 TX6 12, w ∈ TW := List.forall_mem_cons.mpr ⟨tw_2 76 rfl rfl, List.forall_mem_cons.mpr ⟨tw_2 78 rfl rfl, List.forall_mem_cons.mpr ⟨tw_2 80 rfl rfl, List.forall_mem_cons.mpr ⟨tw_2 82 rfl rfl, List.forall_mem_cons.mpr ⟨tw_2 84 rfl rfl, List.forall_mem_cons.mpr ⟨tw_2 86 rfl rfl, List.forall_mem_cons.mpr ⟨tw_2 88 rfl rfl, List.forall_mem_cons.mpr ⟨tw_2 90 rfl rfl, List.forall_mem_cons.mpr ⟨tw_2 92 rfl rfl, List.forall_mem_cons.mpr ⟨tw_2 94 rfl rfl, List.forall_mem_cons.mpr ⟨tw_2 96 rfl rfl, List.forall_mem_cons.mpr ⟨tw_2 98 rfl rfl, fun _ h => absurd h List.not_mem_nil⟩⟩⟩⟩⟩⟩⟩⟩⟩⟩⟩⟩
theorem inX7 : ∀ w ∈ u_ws RX7 TX7 23, w ∈ TW := List.forall_mem_cons.mpr ⟨tw_4 94 rfl rfl, List.forall_mem_cons.mpr ⟨tw_4 96 rfl rfl, List.forall_mem_cons.mpr ⟨tw_4 98 rfl rfl, List.forall_mem_cons.mpr ⟨tw_4 100 rfl rfl, List.forall_mem_cons.mpr ⟨tw_4 102 rfl rfl, List.forall_mem_cons.mpr ⟨tw_4 104 rfl rfl, List.forall_mem_cons.mpr ⟨tw_4 106 rfl rfl, List.forall_mem_cons.mpr ⟨tw_4 108 rfl rfl, List.forall_mem_cons.mpr ⟨tw_4 110 rfl rfl, List.forall_mem_cons.mpr ⟨tw_4 112 rfl rfl, List.forall_mem_cons.mpr ⟨tw_4 114 rfl rfl, List.forall_mem_cons.mpr ⟨tw_4 116 rfl rfl, List.forall_mem_cons.mpr ⟨tw_4 118 rfl rfl, List.forall_mem_cons.mpr ⟨tw_4 120 rfl rfl, List.forall_mem_cons.mpr ⟨tw_4 122 rfl rfl, List.forall_mem_cons.mpr ⟨tw_4 124 rfl rfl, List.forall_mem_cons.mpr ⟨tw_4 126 rfl rfl, List.forall_mem_cons.mpr ⟨tw_4 128 rfl rfl, List.forall_mem_cons.mpr ⟨tw_4 130 rfl rfl, List.forall_mem_cons.mpr ⟨tw_4 132 rfl rfl, List.forall_mem_cons.mpr ⟨tw_4 134 rfl rfl, List.forall_mem_cons.mpr ⟨tw_4 136 rfl rfl, List.forall_mem_cons.mpr ⟨tw_4 138 rfl rfl, fun _ h => absurd h List.not_mem_nil⟩⟩⟩⟩⟩⟩⟩⟩⟩⟩⟩⟩⟩⟩⟩⟩⟩⟩⟩⟩⟩⟩⟩
def CLok (q : vw_C) : Prop := (∀ w ∈ u_ws q.1 q.2.1 q.2.2, w ∈ TW) ∧ (∃ ty : Nat → FieldType, ∀ k, k < q.2.2 → parseFieldDescriptor (q.2.1 k).2.2.1 = some (ty k)) ∧ (∀ a, a < q.2.2 → ∀ b, b < q.2.2 → a ≠ b → (q.2.1 a).2.1 ≠ (q.2.1 b).2.1) ∧ Cond.instantiable q.1 q.2.2 ∈ TW ∧ Cond.initialized q.1 ∈ TW
theorem clX0 : CLok (RX0, TX0, 12) := ⟨inX0, ⟨tyX0, tyX0_ok⟩, nmX0, tw_1 144 rfl rfl, tw_1 8 rfl rfl⟩
theorem clX1 : CLok (RX1, TX1, 2) := ⟨inX1, ⟨tyX1, tyX1_ok⟩, nmX1, tw_1 25 rfl rfl, tw_1 2 rfl rfl⟩
theorem clX2 : CLok (RX2, TX2, 4) := ⟨inX2, ⟨tyX2, tyX2_ok⟩, nmX2, tw_1 77 rfl rfl, tw_1 6 rfl rfl⟩
theorem clX3 : CLok (RX3, TX3, 6) := ⟨inX3, ⟨tyX3, tyX3_ok⟩, nmX3, tw_1 71 rfl rfl, tw_1 5 rfl rfl⟩
theorem clX4 : CLok (RX4, TX4, 3) := ⟨inX4, ⟨tyX4, tyX4_ok⟩, nmX4, tw_1 124 rfl rfl, tw_1 7 rfl rfl⟩
theorem clX5 : CLok (RX5, TX5, 6) := ⟨inX5, ⟨tyX5, tyX5_ok⟩, nmX5, tw_1 45 rfl rfl, tw_1 4 rfl rfl⟩
theorem clX6 : CLok (RX6, TX6, 12) := ⟨inX6, ⟨tyX6, tyX6_ok⟩, nmX6, tw_1 17 rfl rfl, tw_1 1 rfl rfl⟩
theorem clX7 : CLok (RX7, TX7, 23) := ⟨inX7, ⟨tyX7, tyX7_ok⟩, nmX7, tw_4 39 rfl rfl, tw_1 9 rfl rfl⟩
theorem cl_ok : ∀ (ci : Nat) (q : vw_C), vwCl[ci]? = some q → CLok q := by
  intro ci q h
  match ci, h with
  | 0, h => cases h; exact clX0
  | 1, h => cases h; exact clX1
  | 2, h => cases h; exact clX2
  | 3, h => cases h; exact clX3
  | 4, h => cases h; exact clX4
  | 5, h => cases h; exact clX5
  | 6, h => cases h; exact clX6
  | 7, h => cases h; exact clX7
  | n + 8, h => simp at h
def FL (own : String) (idx ci k : Nat) : Prop := ∃ (C : String) (T : u_T) (n : Nat), vwCl[ci]? = some (C, T, n) ∧ k < n ∧ Cond.fieldLink own idx (T k).1 (T k).2.1 (T k).2.2.1 ∈ TW
theorem flX1_21 : FL RX1 21 1 0 := ⟨RX1, TX1, 2, rfl, by decide, tw_1 33 rfl rfl⟩
theorem flX1_9 : FL RX1 9 1 1 := ⟨RX1, TX1, 2, rfl, by decide, tw_1 34 rfl rfl⟩
theorem flX6_86 : FL RX6 86 1 1 := ⟨RX1, TX1, 2, rfl, by decide, tw_1 35 rfl rfl⟩
theorem flX5_46 : FL RX5 46 1 1 := ⟨RX1, TX1, 2, rfl, by decide, tw_1 36 rfl rfl⟩
theorem flX0_124 : FL RX0 124 1 1 := ⟨RX1, TX1, 2, rfl, by decide, tw_1 37 rfl rfl⟩
theorem flX5_9 : FL RX5 9 5 0 := ⟨RX5, TX5, 6, rfl, by decide, tw_1 50 rfl rfl⟩
theorem flX5_15 : FL RX5 15 5 1 := ⟨RX5, TX5, 6, rfl, by decide, tw_1 51 rfl rfl⟩
theorem flX5_18 : FL RX5 18 5 2 := ⟨RX5, TX5, 6, rfl, by decide, tw_1 52 rfl rfl⟩
theorem flX5_21 : FL RX5 21 5 3 := ⟨RX5, TX5, 6, rfl, by decide, tw_1 53 rfl rfl⟩
theorem flX5_25 : FL RX5 25 5 4 := ⟨RX5, TX5, 6, rfl, by decide, tw_1 54 rfl rfl⟩
theorem flX5_28 : FL RX5 28 5 5 := ⟨RX5, TX5, 6, rfl, by decide, tw_1 55 rfl rfl⟩
theorem flX6_112 : FL RX6 112 5 5 := ⟨RX5, TX5, 6, rfl, by decide, tw_1 56 rfl rfl⟩
theorem flX2_9 : FL RX2 9 2 0 := ⟨RX2, TX2, 4, rfl, by decide, tw_1 82 rfl rfl⟩
theorem flX0_49 : FL RX0 49 2 0 := ⟨RX2, TX2, 4, rfl, by decide, tw_1 83 rfl rfl⟩
theorem flX5_92 : FL RX5 92 2 0 := ⟨RX2, TX2, 4, rfl, by decide, tw_1 84 rfl rfl⟩
theorem flX2_15 : FL RX2 15 2 1 := ⟨RX2, TX2, 4, rfl, by decide, tw_1 85 rfl rfl⟩
theorem flX0_61 : FL RX0 61 2 1 := ⟨RX2, TX2, 4, rfl, by decide, tw_1 86 rfl rfl⟩
theorem flX2_18 : FL RX2 18 2 2 := ⟨RX2, TX2, 4, rfl, by decide, tw_1 87 rfl rfl⟩
theorem flX2_22 : FL RX2 22 2 3 := ⟨RX2, TX2, 4, rfl, by decide, tw_1 88 rfl rfl⟩
theorem flX3_10 : FL RX3 10 3 0 := ⟨RX3, TX3, 6, rfl, by decide, tw_1 98 rfl rfl⟩
theorem flX6_90 : FL RX6 90 3 0 := ⟨RX3, TX3, 6, rfl, by decide, tw_1 99 rfl rfl⟩
theorem flX3_16 : FL RX3 16 3 1 := ⟨RX3, TX3, 6, rfl, by decide, tw_1 100 rfl rfl⟩
theorem flX6_147 : FL RX6 147 3 1 := ⟨RX3, TX3, 6, rfl, by decide, tw_1 101 rfl rfl⟩
theorem flX3_20 : FL RX3 20 3 2 := ⟨RX3, TX3, 6, rfl, by decide, tw_1 102 rfl rfl⟩
theorem flX6_207 : FL RX6 207 3 2 := ⟨RX3, TX3, 6, rfl, by decide, tw_1 103 rfl rfl⟩
theorem flX3_23 : FL RX3 23 3 3 := ⟨RX3, TX3, 6, rfl, by decide, tw_1 104 rfl rfl⟩
theorem flX6_216 : FL RX6 216 3 3 := ⟨RX3, TX3, 6, rfl, by decide, tw_1 105 rfl rfl⟩
theorem flX3_26 : FL RX3 26 3 4 := ⟨RX3, TX3, 6, rfl, by decide, tw_1 106 rfl rfl⟩
theorem flX6_219 : FL RX6 219 3 4 := ⟨RX3, TX3, 6, rfl, by decide, tw_1 107 rfl rfl⟩
theorem flX3_29 : FL RX3 29 3 5 := ⟨RX3, TX3, 6, rfl, by decide, tw_1 108 rfl rfl⟩
theorem flX6_222 : FL RX6 222 3 5 := ⟨RX3, TX3, 6, rfl, by decide, tw_1 109 rfl rfl⟩
theorem flX4_11 : FL RX4 11 4 0 := ⟨RX4, TX4, 3, rfl, by decide, tw_1 132 rfl rfl⟩
theorem flX4_17 : FL RX4 17 4 1 := ⟨RX4, TX4, 3, rfl, by decide, tw_1 133 rfl rfl⟩
theorem flX4_21 : FL RX4 21 4 2 := ⟨RX4, TX4, 3, rfl, by decide, tw_1 134 rfl rfl⟩
theorem flX6_139 : FL RX6 139 4 2 := ⟨RX4, TX4, 3, rfl, by decide, tw_1 135 rfl rfl⟩
theorem flX0_9 : FL RX0 9 0 0 := ⟨RX0, TX0, 12, rfl, by decide, tw_1 149 rfl rfl⟩
theorem flX6_187 : FL RX6 187 0 0 := ⟨RX0, TX0, 12, rfl, by decide, tw_1 150 rfl rfl⟩
theorem flX0_15 : FL RX0 15 0 1 := ⟨RX0, TX0, 12, rfl, by decide, tw_1 151 rfl rfl⟩
theorem flX6_213 : FL RX6 213 0 1 := ⟨RX0, TX0, 12, rfl, by decide, tw_1 152 rfl rfl⟩
theorem flX0_18 : FL RX0 18 0 2 := ⟨RX0, TX0, 12, rfl, by decide, tw_1 153 rfl rfl⟩
theorem flX0_22 : FL RX0 22 0 3 := ⟨RX0, TX0, 12, rfl, by decide, tw_1 154 rfl rfl⟩
theorem flX0_25 : FL RX0 25 0 4 := ⟨RX0, TX0, 12, rfl, by decide, tw_1 155 rfl rfl⟩
theorem flX0_28 : FL RX0 28 0 5 := ⟨RX0, TX0, 12, rfl, by decide, tw_1 156 rfl rfl⟩
theorem flX0_31 : FL RX0 31 0 6 := ⟨RX0, TX0, 12, rfl, by decide, tw_1 157 rfl rfl⟩
theorem flX0_34 : FL RX0 34 0 7 := ⟨RX0, TX0, 12, rfl, by decide, tw_1 158 rfl rfl⟩
theorem flX0_37 : FL RX0 37 0 8 := ⟨RX0, TX0, 12, rfl, by decide, tw_1 159 rfl rfl⟩
theorem flX0_40 : FL RX0 40 0 9 := ⟨RX0, TX0, 12, rfl, by decide, tw_1 160 rfl rfl⟩
theorem flX0_43 : FL RX0 43 0 10 := ⟨RX0, TX0, 12, rfl, by decide, tw_1 161 rfl rfl⟩
theorem flX6_184 : FL RX6 184 0 10 := ⟨RX0, TX0, 12, rfl, by decide, tw_1 162 rfl rfl⟩
theorem flX0_46 : FL RX0 46 0 11 := ⟨RX0, TX0, 12, rfl, by decide, tw_1 163 rfl rfl⟩
theorem flX6_200 : FL RX6 200 0 11 := ⟨RX0, TX0, 12, rfl, by decide, tw_1 164 rfl rfl⟩
theorem flX6_14 : FL RX6 14 6 0 := ⟨RX6, TX6, 12, rfl, by decide, tw_2 64 rfl rfl⟩
theorem flX6_21 : FL RX6 21 6 1 := ⟨RX6, TX6, 12, rfl, by decide, tw_2 65 rfl rfl⟩
theorem flX6_28 : FL RX6 28 6 2 := ⟨RX6, TX6, 12, rfl, by decide, tw_2 66 rfl rfl⟩
theorem flX6_35 : FL RX6 35 6 3 := ⟨RX6, TX6, 12, rfl, by decide, tw_2 67 rfl rfl⟩
theorem flX6_39 : FL RX6 39 6 4 := ⟨RX6, TX6, 12, rfl, by decide, tw_2 68 rfl rfl⟩
theorem flX6_43 : FL RX6 43 6 5 := ⟨RX6, TX6, 12, rfl, by decide, tw_2 69 rfl rfl⟩
theorem flX6_50 : FL RX6 50 6 6 := ⟨RX6, TX6, 12, rfl, by decide, tw_2 70 rfl rfl⟩
theorem flX6_57 : FL RX6 57 6 7 := ⟨RX6, TX6, 12, rfl, by decide, tw_2 71 rfl rfl⟩
theorem flX6_61 : FL RX6 61 6 8 := ⟨RX6, TX6, 12, rfl, by decide, tw_2 72 rfl rfl⟩
theorem flX6_64 : FL RX6 64 6 9 := ⟨RX6, TX6, 12, rfl, by decide, tw_2 73 rfl rfl⟩
theorem flX6_67 : FL RX6 67 6 10 := ⟨RX6, TX6, 12, rfl, by decide, tw_2 74 rfl rfl⟩
theorem flX6_71 : FL RX6 71 6 11 := ⟨RX6, TX6, 12, rfl, by decide, tw_2 75 rfl rfl⟩
theorem flX7_7 : FL RX7 7 7 0 := ⟨RX7, TX7, 23, rfl, by decide, tw_4 71 rfl rfl⟩
theorem flX7_13 : FL RX7 13 7 1 := ⟨RX7, TX7, 23, rfl, by decide, tw_4 72 rfl rfl⟩
theorem flX7_16 : FL RX7 16 7 2 := ⟨RX7, TX7, 23, rfl, by decide, tw_4 73 rfl rfl⟩
theorem flX7_62 : FL RX7 62 7 3 := ⟨RX7, TX7, 23, rfl, by decide, tw_4 74 rfl rfl⟩
theorem flX7_20 : FL RX7 20 7 4 := ⟨RX7, TX7, 23, rfl, by decide, tw_4 75 rfl rfl⟩
theorem flX7_24 : FL RX7 24 7 5 := ⟨RX7, TX7, 23, rfl, by decide, tw_4 76 rfl rfl⟩
theorem flX7_76 : FL RX7 76 7 6 := ⟨RX7, TX7, 23, rfl, by decide, tw_4 77 rfl rfl⟩
theorem flX7_91 : FL RX7 91 7 7 := ⟨RX7, TX7, 23, rfl, by decide, tw_4 78 rfl rfl⟩
theorem flX7_88 : FL RX7 88 7 8 := ⟨RX7, TX7, 23, rfl, by decide, tw_4 79 rfl rfl⟩
theorem flX7_111 : FL RX7 111 7 9 := ⟨RX7, TX7, 23, rfl, by decide, tw_4 80 rfl rfl⟩
theorem flX7_145 : FL RX7 145 7 10 := ⟨RX7, TX7, 23, rfl, by decide, tw_4 81 rfl rfl⟩
theorem flX7_114 : FL RX7 114 7 11 := ⟨RX7, TX7, 23, rfl, by decide, tw_4 82 rfl rfl⟩
theorem flX7_101 : FL RX7 101 7 12 := ⟨RX7, TX7, 23, rfl, by decide, tw_4 83 rfl rfl⟩
theorem flX7_27 : FL RX7 27 7 13 := ⟨RX7, TX7, 23, rfl, by decide, tw_4 84 rfl rfl⟩
theorem flX7_30 : FL RX7 30 7 14 := ⟨RX7, TX7, 23, rfl, by decide, tw_4 85 rfl rfl⟩
theorem flX7_33 : FL RX7 33 7 15 := ⟨RX7, TX7, 23, rfl, by decide, tw_4 86 rfl rfl⟩
theorem flX7_36 : FL RX7 36 7 16 := ⟨RX7, TX7, 23, rfl, by decide, tw_4 87 rfl rfl⟩
theorem flX7_39 : FL RX7 39 7 17 := ⟨RX7, TX7, 23, rfl, by decide, tw_4 88 rfl rfl⟩
theorem flX7_185 : FL RX7 185 7 18 := ⟨RX7, TX7, 23, rfl, by decide, tw_4 89 rfl rfl⟩
theorem flX7_42 : FL RX7 42 7 19 := ⟨RX7, TX7, 23, rfl, by decide, tw_4 90 rfl rfl⟩
theorem flX7_208 : FL RX7 208 7 20 := ⟨RX7, TX7, 23, rfl, by decide, tw_4 91 rfl rfl⟩
theorem flX7_45 : FL RX7 45 7 21 := ⟨RX7, TX7, 23, rfl, by decide, tw_4 92 rfl rfl⟩
theorem flX7_48 : FL RX7 48 7 22 := ⟨RX7, TX7, 23, rfl, by decide, tw_4 93 rfl rfl⟩
theorem kcX2_37 : Cond.constant RX2 37 (-100000) ∈ TW := tw_1 226 rfl rfl
theorem kcX6_77 : Cond.constant RX6 77 (-100002) ∈ TW := tw_2 105 rfl rfl
theorem kcX6_82 : Cond.constant RX6 82 (-100004) ∈ TW := tw_2 107 rfl rfl
theorem kcX1_61 : Cond.constant RX1 61 (-100000) ∈ TW := tw_2 200 rfl rfl
theorem kcX6_101 : Cond.constant RX6 101 (-100003) ∈ TW := tw_3 21 rfl rfl
theorem kcX6_129 : Cond.constant RX6 129 (-100001) ∈ TW := tw_3 51 rfl rfl
theorem kcX0_123 : Cond.constant RX0 123 (-100000) ∈ TW := tw_3 170 rfl rfl
theorem kcX6_235 : Cond.constant RX6 235 (-100000) ∈ TW := tw_3 188 rfl rfl
theorem kcX6_239 : Cond.constant RX6 239 (-100011) ∈ TW := tw_3 200 rfl rfl
theorem kcX6_240 : Cond.constant RX6 240 (-100012) ∈ TW := tw_3 201 rfl rfl
theorem kcX6_241 : Cond.constant RX6 241 (-100013) ∈ TW := tw_3 202 rfl rfl
theorem kcX6_275 : Cond.constant RX6 275 (-100014) ∈ TW := tw_4 33 rfl rfl
theorem kcX7_73 : Cond.constantLong RX7 73 (255) ∈ TW := tw_4 145 rfl rfl
theorem kcX7_75 : Cond.constant RX7 75 (-100002) ∈ TW := tw_4 149 rfl rfl
theorem kcX7_79 : Cond.constant RX7 79 (-100004) ∈ TW := tw_4 150 rfl rfl
theorem kcX7_80 : Cond.constantLong RX7 80 (97) ∈ TW := tw_4 170 rfl rfl
theorem kcX7_82 : Cond.constantLong RX7 82 (122) ∈ TW := tw_4 171 rfl rfl
theorem kcX7_84 : Cond.constantLong RX7 84 (48) ∈ TW := tw_4 175 rfl rfl
theorem kcX7_86 : Cond.constantLong RX7 86 (57) ∈ TW := tw_4 176 rfl rfl
theorem kcX7_155 : Cond.constant RX7 155 (-100003) ∈ TW := tw_4 220 rfl rfl
theorem kcX7_163 : Cond.constant RX7 163 (-100001) ∈ TW := tw_4 229 rfl rfl
theorem kcX7_69 : Cond.constantLong RX7 69 (-40) ∈ TW := tw_4 233 rfl rfl
theorem kcX7_71 : Cond.constantLong RX7 71 (40) ∈ TW := tw_4 234 rfl rfl
theorem kcX7_170 : Cond.constant RX7 170 (-100000) ∈ TW := tw_5 23 rfl rfl
theorem kcX7_188 : Cond.constantLong RX7 188 (6) ∈ TW := tw_5 28 rfl rfl
theorem kcX7_196 : Cond.constantLong RX7 196 (2) ∈ TW := tw_5 41 rfl rfl
theorem kcX7_204 : Cond.constantLong RX7 204 (-200) ∈ TW := tw_5 74 rfl rfl
theorem kcX7_206 : Cond.constantLong RX7 206 (2000) ∈ TW := tw_5 75 rfl rfl
theorem kcX7_235 : Cond.constantLong RX7 235 (32) ∈ TW := tw_5 123 rfl rfl
theorem kcX7_237 : Cond.constantLong RX7 237 (126) ∈ TW := tw_5 124 rfl rfl
theorem kcX7_239 : Cond.constant RX7 239 (-100011) ∈ TW := tw_5 125 rfl rfl
theorem kcX7_240 : Cond.constant RX7 240 (-100012) ∈ TW := tw_5 126 rfl rfl
theorem kcX7_241 : Cond.constant RX7 241 (-100013) ∈ TW := tw_5 127 rfl rfl
theorem kcX7_242 : Cond.constantLong RX7 242 (4) ∈ TW := tw_5 160 rfl rfl
theorem kcX7_244 : Cond.constant RX7 244 (-100014) ∈ TW := tw_5 161 rfl rfl
theorem clL_7 : Cond.classLink RL 7 RX6 ∈ TW := tw_1 16 rfl rfl
theorem clX6_7 : Cond.classLink RX6 7 RX1 ∈ TW := tw_1 24 rfl rfl
theorem clX6_18 : Cond.classLink RX6 18 RX5 ∈ TW := tw_1 44 rfl rfl
theorem clX6_25 : Cond.classLink RX6 25 RX3 ∈ TW := tw_1 70 rfl rfl
theorem clX3_7 : Cond.classLink RX3 7 RX2 ∈ TW := tw_1 76 rfl rfl
theorem clX6_32 : Cond.classLink RX6 32 RX4 ∈ TW := tw_1 123 rfl rfl
theorem clX4_9 : Cond.classLink RX4 9 RX3 ∈ TW := tw_1 129 rfl rfl
theorem clX6_47 : Cond.classLink RX6 47 RX0 ∈ TW := tw_1 143 rfl rfl
theorem clX6_54 : Cond.classLink RX6 54 RX2 ∈ TW := tw_1 191 rfl rfl
theorem clL_10 : Cond.classLink RL 10 RX7 ∈ TW := tw_4 38 rfl rfl
def MC (M : MI) (n : Nat) : Prop := Cond.code (MI.y M) (MI.cc M) (MI.nL M) (MI.ret M) ∈ TW ∧ Cond.initialized (MI.own M) ∈ TW ∧ ((MI.own M) ≠ "java/lang/invoke/MethodHandle" ∧ (MI.own M) ≠ "java/lang/invoke/VarHandle" ∧ (parseMethodDescriptor (MI.y M).desc).map (fun d => d.parameters.length) = some n) ∧ plainFor (MI.y M) = true ∧ MI.nL M ≤ 17 ∧ MI.lw M = false
abbrev mX6_init : MI := (yX6_init, cX6_init, 2, none, false)
theorem mcX6_init : MC mX6_init 0 := ⟨tw_1 20 rfl rfl, tw_1 1 rfl rfl, by decide +kernel, by decide +kernel, by decide, rfl⟩
abbrev mX1_init : MI := (yX1_init, cX1_init, 2, none, false)
theorem mcX1_init : MC mX1_init 1 := ⟨tw_1 28 rfl rfl, tw_1 2 rfl rfl, by decide +kernel, by decide +kernel, by decide, rfl⟩
abbrev mJ9_max_7cf53 : MI := (yJ9_max_7cf53, cJ9_max_7cf53, 2, some .int, false)
theorem mcJ9_max_7cf53 : MC mJ9_max_7cf53 2 := ⟨tw_1 32 rfl rfl, tw_1 3 rfl rfl, by decide +kernel, by decide +kernel, by decide, rfl⟩
abbrev mX5_init : MI := (yX5_init, cX5_init, 1, none, false)
theorem mcX5_init : MC mX5_init 0 := ⟨tw_1 48 rfl rfl, tw_1 4 rfl rfl, by decide +kernel, by decide +kernel, by decide, rfl⟩
abbrev mX3_init : MI := (yX3_init, cX3_init, 1, none, false)
theorem mcX3_init : MC mX3_init 0 := ⟨tw_1 74 rfl rfl, tw_1 5 rfl rfl, by decide +kernel, by decide +kernel, by decide, rfl⟩
abbrev mX2_init : MI := (yX2_init, cX2_init, 1, none, false)
theorem mcX2_init : MC mX2_init 0 := ⟨tw_1 80 rfl rfl, tw_1 6 rfl rfl, by decide +kernel, by decide +kernel, by decide, rfl⟩
abbrev mX4_init : MI := (yX4_init, cX4_init, 2, none, false)
theorem mcX4_init : MC mX4_init 0 := ⟨tw_1 127 rfl rfl, tw_1 7 rfl rfl, by decide +kernel, by decide +kernel, by decide, rfl⟩
abbrev mX0_init : MI := (yX0_init, cX0_init, 1, none, false)
theorem mcX0_init : MC mX0_init 0 := ⟨tw_1 147 rfl rfl, tw_1 8 rfl rfl, by decide +kernel, by decide +kernel, by decide, rfl⟩
abbrev mX6_reckonAnew : MI := (yX6_reckonAnew, cX6_reckonAnew, 1, none, false)
theorem mcX6_reckonAnew : MC mX6_reckonAnew 0 := ⟨tw_1 197 rfl rfl, tw_1 1 rfl rfl, by decide +kernel, by decide +kernel, by decide, rfl⟩
abbrev mX0_reckon : MI := (yX0_reckon, cX0_reckon, 2, none, false)
theorem mcX0_reckon : MC mX0_reckon 1 := ⟨tw_1 201 rfl rfl, tw_1 8 rfl rfl, by decide +kernel, by decide +kernel, by decide, rfl⟩
abbrev mJ9_min_7cf53 : MI := (yJ9_min_7cf53, cJ9_min_7cf53, 2, some .int, false)
theorem mcJ9_min_7cf53 : MC mJ9_min_7cf53 2 := ⟨tw_1 204 rfl rfl, tw_1 3 rfl rfl, by decide +kernel, by decide +kernel, by decide, rfl⟩
abbrev mX0_takeMeans : MI := (yX0_takeMeans, cX0_takeMeans, 3, none, false)
theorem mcX0_takeMeans : MC mX0_takeMeans 1 := ⟨tw_1 209 rfl rfl, tw_1 8 rfl rfl, by decide +kernel, by decide +kernel, by decide, rfl⟩
abbrev mX2_meanOf : MI := (yX2_meanOf, cX2_meanOf, 6, some .int, false)
theorem mcX2_meanOf : MC mX2_meanOf 2 := ⟨tw_1 213 rfl rfl, tw_1 6 rfl rfl, by decide +kernel, by decide +kernel, by decide, rfl⟩
abbrev mX2_countAt : MI := (yX2_countAt, cX2_countAt, 4, some .int, false)
theorem mcX2_countAt : MC mX2_countAt 2 := ⟨tw_1 217 rfl rfl, tw_1 6 rfl rfl, by decide +kernel, by decide +kernel, by decide, rfl⟩
abbrev mX2_slotOf : MI := (yX2_slotOf, cX2_slotOf, 3, some .int, false)
theorem mcX2_slotOf : MC mX2_slotOf 2 := ⟨tw_1 221 rfl rfl, tw_1 6 rfl rfl, by decide +kernel, by decide +kernel, by decide, rfl⟩
abbrev mX2_errAt : MI := (yX2_errAt, cX2_errAt, 5, some .int, false)
theorem mcX2_errAt : MC mX2_errAt 3 := ⟨tw_1 225 rfl rfl, tw_1 6 rfl rfl, by decide +kernel, by decide +kernel, by decide, rfl⟩
abbrev mX0_slopeAt : MI := (yX0_slopeAt, cX0_slopeAt, 2, some .int, false)
theorem mcX0_slopeAt : MC mX0_slopeAt 1 := ⟨tw_1 230 rfl rfl, tw_1 8 rfl rfl, by decide +kernel, by decide +kernel, by decide, rfl⟩
abbrev mX0_meanAt : MI := (yX0_meanAt, cX0_meanAt, 3, some .int, false)
theorem mcX0_meanAt : MC mX0_meanAt 2 := ⟨tw_1 234 rfl rfl, tw_1 8 rfl rfl, by decide +kernel, by decide +kernel, by decide, rfl⟩
abbrev mX0_hasPoint : MI := (yX0_hasPoint, cX0_hasPoint, 2, some .boolean, false)
theorem mcX0_hasPoint : MC mX0_hasPoint 1 := ⟨tw_1 238 rfl rfl, tw_1 8 rfl rfl, by decide +kernel, by decide +kernel, by decide, rfl⟩
abbrev mX6_isWay : MI := (yX6_isWay, cX6_isWay, 1, some .boolean, false)
theorem mcX6_isWay : MC mX6_isWay 1 := ⟨tw_2 1 rfl rfl, tw_1 1 rfl rfl, by decide +kernel, by decide +kernel, by decide, rfl⟩
abbrev mX0_takePlay : MI := (yX0_takePlay, cX0_takePlay, 2, none, false)
theorem mcX0_takePlay : MC mX0_takePlay 0 := ⟨tw_2 5 rfl rfl, tw_1 8 rfl rfl, by decide +kernel, by decide +kernel, by decide, rfl⟩
abbrev mX6_nearestLesser : MI := (yX6_nearestLesser, cX6_nearestLesser, 2, some .int, false)
theorem mcX6_nearestLesser : MC mX6_nearestLesser 2 := ⟨tw_2 8 rfl rfl, tw_1 1 rfl rfl, by decide +kernel, by decide +kernel, by decide, rfl⟩
abbrev mJ9_floorDiv_7cf53 : MI := (yJ9_floorDiv_7cf53, cJ9_floorDiv_7cf53, 3, some .int, false)
theorem mcJ9_floorDiv_7cf53 : MC mJ9_floorDiv_7cf53 2 := ⟨tw_2 11 rfl rfl, tw_1 3 rfl rfl, by decide +kernel, by decide +kernel, by decide, rfl⟩
abbrev mX0_poolWanted : MI := (yX0_poolWanted, cX0_poolWanted, 3, none, false)
theorem mcX0_poolWanted : MC mX0_poolWanted 0 := ⟨tw_2 15 rfl rfl, tw_1 8 rfl rfl, by decide +kernel, by decide +kernel, by decide, rfl⟩
abbrev mX0_lastIsNotMore : MI := (yX0_lastIsNotMore, cX0_lastIsNotMore, 2, some .boolean, false)
theorem mcX0_lastIsNotMore : MC mX0_lastIsNotMore 0 := ⟨tw_2 19 rfl rfl, tw_1 8 rfl rfl, by decide +kernel, by decide +kernel, by decide, rfl⟩
abbrev mX0_makeCounts : MI := (yX0_makeCounts, cX0_makeCounts, 3, none, false)
theorem mcX0_makeCounts : MC mX0_makeCounts 0 := ⟨tw_2 23 rfl rfl, tw_1 8 rfl rfl, by decide +kernel, by decide +kernel, by decide, rfl⟩
abbrev mX0_poolTotalAt : MI := (yX0_poolTotalAt, cX0_poolTotalAt, 2, some .int, false)
theorem mcX0_poolTotalAt : MC mX0_poolTotalAt 1 := ⟨tw_2 27 rfl rfl, tw_1 8 rfl rfl, by decide +kernel, by decide +kernel, by decide, rfl⟩
abbrev mX0_poolSizeAt : MI := (yX0_poolSizeAt, cX0_poolSizeAt, 2, some .int, false)
theorem mcX0_poolSizeAt : MC mX0_poolSizeAt 1 := ⟨tw_2 31 rfl rfl, tw_1 8 rfl rfl, by decide +kernel, by decide +kernel, by decide, rfl⟩
abbrev mX0_writeOut : MI := (yX0_writeOut, cX0_writeOut, 4, none, false)
theorem mcX0_writeOut : MC mX0_writeOut 1 := ⟨tw_2 35 rfl rfl, tw_1 8 rfl rfl, by decide +kernel, by decide +kernel, by decide, rfl⟩
abbrev mX0_offsetAt : MI := (yX0_offsetAt, cX0_offsetAt, 2, some .int, false)
theorem mcX0_offsetAt : MC mX0_offsetAt 1 := ⟨tw_2 39 rfl rfl, tw_1 8 rfl rfl, by decide +kernel, by decide +kernel, by decide, rfl⟩
abbrev mX0_tableAt : MI := (yX0_tableAt, cX0_tableAt, 2, some .int, false)
theorem mcX0_tableAt : MC mX0_tableAt 1 := ⟨tw_2 43 rfl rfl, tw_1 8 rfl rfl, by decide +kernel, by decide +kernel, by decide, rfl⟩
abbrev mX1_putNumber : MI := (yX1_putNumber, cX1_putNumber, 3, none, false)
theorem mcX1_putNumber : MC mX1_putNumber 1 := ⟨tw_2 47 rfl rfl, tw_1 2 rfl rfl, by decide +kernel, by decide +kernel, by decide, rfl⟩
abbrev mX1_put : MI := (yX1_put, cX1_put, 2, none, false)
theorem mcX1_put : MC mX1_put 1 := ⟨tw_2 51 rfl rfl, tw_1 2 rfl rfl, by decide +kernel, by decide +kernel, by decide, rfl⟩
abbrev mX1_putAt : MI := (yX1_putAt, cX1_putAt, 4, none, false)
theorem mcX1_putAt : MC mX1_putAt 2 := ⟨tw_2 55 rfl rfl, tw_1 2 rfl rfl, by decide +kernel, by decide +kernel, by decide, rfl⟩
abbrev mX1_hasRoomFor : MI := (yX1_hasRoomFor, cX1_hasRoomFor, 2, some .boolean, false)
theorem mcX1_hasRoomFor : MC mX1_hasRoomFor 1 := ⟨tw_2 59 rfl rfl, tw_1 2 rfl rfl, by decide +kernel, by decide +kernel, by decide, rfl⟩
abbrev mJ9_abs_0f7a4 : MI := (yJ9_abs_0f7a4, cJ9_abs_0f7a4, 1, some .int, false)
theorem mcJ9_abs_0f7a4 : MC mJ9_abs_0f7a4 1 := ⟨tw_2 63 rfl rfl, tw_1 3 rfl rfl, by decide +kernel, by decide +kernel, by decide, rfl⟩
abbrev mX6_write : MI := (yX6_write, cX6_write, 2, some .int, false)
theorem mcX6_write : MC mX6_write 1 := ⟨tw_2 104 rfl rfl, tw_1 1 rfl rfl, by decide +kernel, by decide +kernel, by decide, rfl⟩
abbrev mX6_erase : MI := (yX6_erase, cX6_erase, 2, some .int, false)
theorem mcX6_erase : MC mX6_erase 0 := ⟨tw_2 112 rfl rfl, tw_1 1 rfl rfl, by decide +kernel, by decide +kernel, by decide, rfl⟩
abbrev mX6_fault : MI := (yX6_fault, cX6_fault, 1, some .int, false)
theorem mcX6_fault : MC mX6_fault 0 := ⟨tw_2 116 rfl rfl, tw_1 1 rfl rfl, by decide +kernel, by decide +kernel, by decide, rfl⟩
abbrev mX2_copyFrom : MI := (yX2_copyFrom, cX2_copyFrom, 2, none, false)
theorem mcX2_copyFrom : MC mX2_copyFrom 1 := ⟨tw_2 120 rfl rfl, tw_1 6 rfl rfl, by decide +kernel, by decide +kernel, by decide, rfl⟩
abbrev mX5_readInto : MI := (yX5_readInto, cX5_readInto, 3, some .int, false)
theorem mcX5_readInto : MC mX5_readInto 2 := ⟨tw_2 127 rfl rfl, tw_1 4 rfl rfl, by decide +kernel, by decide +kernel, by decide, rfl⟩
abbrev mX5_partIntoTokens : MI := (yX5_partIntoTokens, cX5_partIntoTokens, 4, none, false)
theorem mcX5_partIntoTokens : MC mX5_partIntoTokens 1 := ⟨tw_2 131 rfl rfl, tw_1 4 rfl rfl, by decide +kernel, by decide +kernel, by decide, rfl⟩
abbrev mX1_at : MI := (yX1_at, cX1_at, 2, some .int, false)
theorem mcX1_at : MC mX1_at 1 := ⟨tw_2 135 rfl rfl, tw_1 2 rfl rfl, by decide +kernel, by decide +kernel, by decide, rfl⟩
abbrev mX6_isSmallLetter : MI := (yX6_isSmallLetter, cX6_isSmallLetter, 1, some .boolean, false)
theorem mcX6_isSmallLetter : MC mX6_isSmallLetter 1 := ⟨tw_2 138 rfl rfl, tw_1 1 rfl rfl, by decide +kernel, by decide +kernel, by decide, rfl⟩
abbrev mX1_wordIn : MI := (yX1_wordIn, cX1_wordIn, 3, some .int, false)
theorem mcX1_wordIn : MC mX1_wordIn 2 := ⟨tw_2 142 rfl rfl, tw_1 2 rfl rfl, by decide +kernel, by decide +kernel, by decide, rfl⟩
abbrev mX1_spells : MI := (yX1_spells, cX1_spells, 5, some .boolean, false)
theorem mcX1_spells : MC mX1_spells 3 := ⟨tw_2 147 rfl rfl, tw_1 2 rfl rfl, by decide +kernel, by decide +kernel, by decide, rfl⟩
abbrev mJ0_length_8abf5 : MI := (yJ0_length_8abf5, cJ0_length_8abf5, 1, some .int, false)
theorem mcJ0_length_8abf5 : MC mJ0_length_8abf5 0 := ⟨tw_2 151 rfl rfl, tw_1 11 rfl rfl, by decide +kernel, by decide +kernel, by decide, rfl⟩
abbrev mJ0_coder_7d493 : MI := (yJ0_coder_7d493, cJ0_coder_7d493, 1, some .byte, false)
theorem mcJ0_coder_7d493 : MC mJ0_coder_7d493 0 := ⟨tw_2 155 rfl rfl, tw_1 11 rfl rfl, by decide +kernel, by decide +kernel, by decide, rfl⟩
abbrev mJ0_charAt_5068e : MI := (yJ0_charAt_5068e, cJ0_charAt_5068e, 2, some .char, false)
theorem mcJ0_charAt_5068e : MC mJ0_charAt_5068e 1 := ⟨tw_2 162 rfl rfl, tw_1 11 rfl rfl, by decide +kernel, by decide +kernel, by decide, rfl⟩
abbrev mJ0_isLatin1_aae02 : MI := (yJ0_isLatin1_aae02, cJ0_isLatin1_aae02, 1, some .boolean, false)
theorem mcJ0_isLatin1_aae02 : MC mJ0_isLatin1_aae02 0 := ⟨tw_2 166 rfl rfl, tw_1 11 rfl rfl, by decide +kernel, by decide +kernel, by decide, rfl⟩
abbrev mJ1_charAt_3b067 : MI := (yJ1_charAt_3b067, cJ1_charAt_3b067, 2, some .char, false)
theorem mcJ1_charAt_3b067 : MC mJ1_charAt_3b067 2 := ⟨tw_2 169 rfl rfl, tw_1 12 rfl rfl, by decide +kernel, by decide +kernel, by decide, rfl⟩
abbrev mJ0_checkIndex_df160 : MI := (yJ0_checkIndex_df160, cJ0_checkIndex_df160, 2, none, false)
theorem mcJ0_checkIndex_df160 : MC mJ0_checkIndex_df160 2 := ⟨tw_2 172 rfl rfl, tw_1 11 rfl rfl, by decide +kernel, by decide +kernel, by decide, rfl⟩
abbrev mJ3_checkIndex_8e157 : MI := (yJ3_checkIndex_8e157, cJ3_checkIndex_8e157, 3, some .int, false)
theorem mcJ3_checkIndex_8e157 : MC mJ3_checkIndex_8e157 3 := ⟨tw_2 177 rfl rfl, tw_1 13 rfl rfl, by decide +kernel, by decide +kernel, by decide, rfl⟩
abbrev mJ2_charAt_3b067 : MI := (yJ2_charAt_3b067, cJ2_charAt_3b067, 2, some .char, false)
theorem mcJ2_charAt_3b067 : MC mJ2_charAt_3b067 2 := ⟨tw_2 180 rfl rfl, tw_1 14 rfl rfl, by decide +kernel, by decide +kernel, by decide, rfl⟩
abbrev mJ2_checkIndex_2214a : MI := (yJ2_checkIndex_2214a, cJ2_checkIndex_2214a, 2, none, false)
theorem mcJ2_checkIndex_2214a : MC mJ2_checkIndex_2214a 2 := ⟨tw_2 183 rfl rfl, tw_1 14 rfl rfl, by decide +kernel, by decide +kernel, by decide, rfl⟩
abbrev mJ2_length_9d52b : MI := (yJ2_length_9d52b, cJ2_length_9d52b, 1, some .int, false)
theorem mcJ2_length_9d52b : MC mJ2_length_9d52b 1 := ⟨tw_2 186 rfl rfl, tw_1 14 rfl rfl, by decide +kernel, by decide +kernel, by decide, rfl⟩
abbrev mJ2_getChar_3b067 : MI := (yJ2_getChar_3b067, cJ2_getChar_3b067, 2, some .char, false)
theorem mcJ2_getChar_3b067 : MC mJ2_getChar_3b067 2 := ⟨tw_2 190 rfl rfl, tw_1 14 rfl rfl, by decide +kernel, by decide +kernel, by decide, rfl⟩
abbrev mX5_addToken : MI := (yX5_addToken, cX5_addToken, 4, none, false)
theorem mcX5_addToken : MC mX5_addToken 3 := ⟨tw_2 204 rfl rfl, tw_1 4 rfl rfl, by decide +kernel, by decide +kernel, by decide, rfl⟩
abbrev mX6_isDigit : MI := (yX6_isDigit, cX6_isDigit, 1, some .boolean, false)
theorem mcX6_isDigit : MC mX6_isDigit 1 := ⟨tw_2 207 rfl rfl, tw_1 1 rfl rfl, by decide +kernel, by decide +kernel, by decide, rfl⟩
abbrev mX1_numberIn : MI := (yX1_numberIn, cX1_numberIn, 6, some .int, false)
theorem mcX1_numberIn : MC mX1_numberIn 3 := ⟨tw_2 211 rfl rfl, tw_1 2 rfl rfl, by decide +kernel, by decide +kernel, by decide, rfl⟩
abbrev mX5_readClause : MI := (yX5_readClause, cX5_readClause, 3, some .boolean, false)
theorem mcX5_readClause : MC mX5_readClause 1 := ⟨tw_2 216 rfl rfl, tw_1 4 rfl rfl, by decide +kernel, by decide +kernel, by decide, rfl⟩
abbrev mX5_goOn : MI := (yX5_goOn, cX5_goOn, 1, none, false)
theorem mcX5_goOn : MC mX5_goOn 0 := ⟨tw_2 220 rfl rfl, tw_1 4 rfl rfl, by decide +kernel, by decide +kernel, by decide, rfl⟩
abbrev mX5_readRow : MI := (yX5_readRow, cX5_readRow, 4, some .boolean, false)
theorem mcX5_readRow : MC mX5_readRow 2 := ⟨tw_2 224 rfl rfl, tw_1 4 rfl rfl, by decide +kernel, by decide +kernel, by decide, rfl⟩
abbrev mX5_readErr : MI := (yX5_readErr, cX5_readErr, 6, some .boolean, false)
theorem mcX5_readErr : MC mX5_readErr 3 := ⟨tw_2 228 rfl rfl, tw_1 4 rfl rfl, by decide +kernel, by decide +kernel, by decide, rfl⟩
abbrev mX5_isSign : MI := (yX5_isSign, cX5_isSign, 2, some .boolean, false)
theorem mcX5_isSign : MC mX5_isSign 1 := ⟨tw_2 232 rfl rfl, tw_1 4 rfl rfl, by decide +kernel, by decide +kernel, by decide, rfl⟩
abbrev mX5_readNumber : MI := (yX5_readNumber, cX5_readNumber, 4, some .int, false)
theorem mcX5_readNumber : MC mX5_readNumber 2 := ⟨tw_2 236 rfl rfl, tw_1 4 rfl rfl, by decide +kernel, by decide +kernel, by decide, rfl⟩
abbrev mX2_add : MI := (yX2_add, cX2_add, 6, some .int, false)
theorem mcX2_add : MC mX2_add 3 := ⟨tw_3 0 rfl rfl, tw_1 6 rfl rfl, by decide +kernel, by decide +kernel, by decide, rfl⟩
abbrev mX5_readAxis : MI := (yX5_readAxis, cX5_readAxis, 4, some .boolean, false)
theorem mcX5_readAxis : MC mX5_readAxis 1 := ⟨tw_3 4 rfl rfl, tw_1 4 rfl rfl, by decide +kernel, by decide +kernel, by decide, rfl⟩
abbrev mX2_begin : MI := (yX2_begin, cX2_begin, 4, none, false)
theorem mcX2_begin : MC mX2_begin 2 := ⟨tw_3 8 rfl rfl, tw_1 6 rfl rfl, by decide +kernel, by decide +kernel, by decide, rfl⟩
abbrev mX5_readOne : MI := (yX5_readOne, cX5_readOne, 4, some .boolean, false)
theorem mcX5_readOne : MC mX5_readOne 1 := ⟨tw_3 14 rfl rfl, tw_1 4 rfl rfl, by decide +kernel, by decide +kernel, by decide, rfl⟩
abbrev mX6_axis : MI := (yX6_axis, cX6_axis, 2, some .int, false)
theorem mcX6_axis : MC mX6_axis 0 := ⟨tw_3 20 rfl rfl, tw_1 1 rfl rfl, by decide +kernel, by decide +kernel, by decide, rfl⟩
abbrev mX0_countAt : MI := (yX0_countAt, cX0_countAt, 4, some .int, false)
theorem mcX0_countAt : MC mX0_countAt 1 := ⟨tw_3 25 rfl rfl, tw_1 8 rfl rfl, by decide +kernel, by decide +kernel, by decide, rfl⟩
abbrev mX0_hasPlace : MI := (yX0_hasPlace, cX0_hasPlace, 2, some .boolean, false)
theorem mcX0_hasPlace : MC mX0_hasPlace 1 := ⟨tw_3 29 rfl rfl, tw_1 8 rfl rfl, by decide +kernel, by decide +kernel, by decide, rfl⟩
abbrev mX3_rest : MI := (yX3_rest, cX3_rest, 2, none, false)
theorem mcX3_rest : MC mX3_rest 1 := ⟨tw_3 34 rfl rfl, tw_1 5 rfl rfl, by decide +kernel, by decide +kernel, by decide, rfl⟩
abbrev mX4_forgetAll : MI := (yX4_forgetAll, cX4_forgetAll, 1, none, false)
theorem mcX4_forgetAll : MC mX4_forgetAll 0 := ⟨tw_3 38 rfl rfl, tw_1 7 rfl rfl, by decide +kernel, by decide +kernel, by decide, rfl⟩
abbrev mX6_run : MI := (yX6_run, cX6_run, 6, some .int, false)
theorem mcX6_run : MC mX6_run 3 := ⟨tw_3 42 rfl rfl, tw_1 1 rfl rfl, by decide +kernel, by decide +kernel, by decide, rfl⟩
abbrev mX6_refusalOfRun : MI := (yX6_refusalOfRun, cX6_refusalOfRun, 4, some .int, false)
theorem mcX6_refusalOfRun : MC mX6_refusalOfRun 3 := ⟨tw_3 46 rfl rfl, tw_1 1 rfl rfl, by decide +kernel, by decide +kernel, by decide, rfl⟩
abbrev mX2_hasPoint : MI := (yX2_hasPoint, cX2_hasPoint, 2, some .boolean, false)
theorem mcX2_hasPoint : MC mX2_hasPoint 1 := ⟨tw_3 50 rfl rfl, tw_1 6 rfl rfl, by decide +kernel, by decide +kernel, by decide, rfl⟩
abbrev mX4_remember : MI := (yX4_remember, cX4_remember, 2, none, false)
theorem mcX4_remember : MC mX4_remember 1 := ⟨tw_3 56 rfl rfl, tw_1 7 rfl rfl, by decide +kernel, by decide +kernel, by decide, rfl⟩
abbrev mX3_copyFrom : MI := (yX3_copyFrom, cX3_copyFrom, 2, none, false)
theorem mcX3_copyFrom : MC mX3_copyFrom 1 := ⟨tw_3 60 rfl rfl, tw_1 5 rfl rfl, by decide +kernel, by decide +kernel, by decide, rfl⟩
abbrev mX6_clear : MI := (yX6_clear, cX6_clear, 4, some .int, false)
theorem mcX6_clear : MC mX6_clear 2 := ⟨tw_3 67 rfl rfl, tw_1 1 rfl rfl, by decide +kernel, by decide +kernel, by decide, rfl⟩
abbrev mX2_forget : MI := (yX2_forget, cX2_forget, 5, some .int, false)
theorem mcX2_forget : MC mX2_forget 2 := ⟨tw_3 72 rfl rfl, tw_1 6 rfl rfl, by decide +kernel, by decide +kernel, by decide, rfl⟩
abbrev mX6_undo : MI := (yX6_undo, cX6_undo, 1, some .int, false)
theorem mcX6_undo : MC mX6_undo 0 := ⟨tw_3 76 rfl rfl, tw_1 1 rfl rfl, by decide +kernel, by decide +kernel, by decide, rfl⟩
abbrev mX4_recallInto : MI := (yX4_recallInto, cX4_recallInto, 2, none, false)
theorem mcX4_recallInto : MC mX4_recallInto 1 := ⟨tw_3 80 rfl rfl, tw_1 7 rfl rfl, by decide +kernel, by decide +kernel, by decide, rfl⟩
abbrev mX6_keep : MI := (yX6_keep, cX6_keep, 2, some .int, false)
theorem mcX6_keep : MC mX6_keep 1 := ⟨tw_3 84 rfl rfl, tw_1 1 rfl rfl, by decide +kernel, by decide +kernel, by decide, rfl⟩
abbrev mX6_back : MI := (yX6_back, cX6_back, 2, some .int, false)
theorem mcX6_back : MC mX6_back 1 := ⟨tw_3 89 rfl rfl, tw_1 1 rfl rfl, by decide +kernel, by decide +kernel, by decide, rfl⟩
abbrev mX6_runAt : MI := (yX6_runAt, cX6_runAt, 4, some .int, false)
theorem mcX6_runAt : MC mX6_runAt 3 := ⟨tw_3 93 rfl rfl, tw_1 1 rfl rfl, by decide +kernel, by decide +kernel, by decide, rfl⟩
abbrev mX6_point : MI := (yX6_point, cX6_point, 4, some .int, false)
theorem mcX6_point : MC mX6_point 3 := ⟨tw_3 98 rfl rfl, tw_1 1 rfl rfl, by decide +kernel, by decide +kernel, by decide, rfl⟩
abbrev mX6_isPart : MI := (yX6_isPart, cX6_isPart, 1, some .boolean, false)
theorem mcX6_isPart : MC mX6_isPart 1 := ⟨tw_3 102 rfl rfl, tw_1 1 rfl rfl, by decide +kernel, by decide +kernel, by decide, rfl⟩
abbrev mX6_partOf : MI := (yX6_partOf, cX6_partOf, 4, some .int, false)
theorem mcX6_partOf : MC mX6_partOf 3 := ⟨tw_3 106 rfl rfl, tw_1 1 rfl rfl, by decide +kernel, by decide +kernel, by decide, rfl⟩
abbrev mX6_greatestDivisor : MI := (yX6_greatestDivisor, cX6_greatestDivisor, 6, some .int, false)
theorem mcX6_greatestDivisor : MC mX6_greatestDivisor 2 := ⟨tw_3 110 rfl rfl, tw_1 1 rfl rfl, by decide +kernel, by decide +kernel, by decide, rfl⟩
abbrev mX0_wantedAt : MI := (yX0_wantedAt, cX0_wantedAt, 2, some .int, false)
theorem mcX0_wantedAt : MC mX0_wantedAt 1 := ⟨tw_3 115 rfl rfl, tw_1 8 rfl rfl, by decide +kernel, by decide +kernel, by decide, rfl⟩
abbrev mX0_missAt : MI := (yX0_missAt, cX0_missAt, 4, some .int, false)
theorem mcX0_missAt : MC mX0_missAt 2 := ⟨tw_3 121 rfl rfl, tw_1 8 rfl rfl, by decide +kernel, by decide +kernel, by decide, rfl⟩
abbrev mX6_table : MI := (yX6_table, cX6_table, 3, some .int, false)
theorem mcX6_table : MC mX6_table 2 := ⟨tw_3 125 rfl rfl, tw_1 1 rfl rfl, by decide +kernel, by decide +kernel, by decide, rfl⟩
abbrev mX0_poolFirstAt : MI := (yX0_poolFirstAt, cX0_poolFirstAt, 2, some .int, false)
theorem mcX0_poolFirstAt : MC mX0_poolFirstAt 1 := ⟨tw_3 130 rfl rfl, tw_1 8 rfl rfl, by decide +kernel, by decide +kernel, by decide, rfl⟩
abbrev mX6_play : MI := (yX6_play, cX6_play, 2, some .int, false)
theorem mcX6_play : MC mX6_play 1 := ⟨tw_3 134 rfl rfl, tw_1 1 rfl rfl, by decide +kernel, by decide +kernel, by decide, rfl⟩
abbrev mX6_worst : MI := (yX6_worst, cX6_worst, 1, some .int, false)
theorem mcX6_worst : MC mX6_worst 0 := ⟨tw_3 138 rfl rfl, tw_1 1 rfl rfl, by decide +kernel, by decide +kernel, by decide, rfl⟩
abbrev mX0_worstSlot : MI := (yX0_worstSlot, cX0_worstSlot, 5, some .int, false)
theorem mcX0_worstSlot : MC mX0_worstSlot 0 := ⟨tw_3 142 rfl rfl, tw_1 8 rfl rfl, by decide +kernel, by decide +kernel, by decide, rfl⟩
abbrev mX6_merged : MI := (yX6_merged, cX6_merged, 5, some .int, false)
theorem mcX6_merged : MC mX6_merged 3 := ⟨tw_3 147 rfl rfl, tw_1 1 rfl rfl, by decide +kernel, by decide +kernel, by decide, rfl⟩
abbrev mX6_move : MI := (yX6_move, cX6_move, 4, some .int, false)
theorem mcX6_move : MC mX6_move 1 := ⟨tw_3 151 rfl rfl, tw_1 1 rfl rfl, by decide +kernel, by decide +kernel, by decide, rfl⟩
abbrev mX3_go : MI := (yX3_go, cX3_go, 4, none, false)
theorem mcX3_go : MC mX3_go 3 := ⟨tw_3 156 rfl rfl, tw_1 5 rfl rfl, by decide +kernel, by decide +kernel, by decide, rfl⟩
abbrev mX6_countOf : MI := (yX6_countOf, cX6_countOf, 2, some .int, false)
theorem mcX6_countOf : MC mX6_countOf 1 := ⟨tw_3 161 rfl rfl, tw_1 1 rfl rfl, by decide +kernel, by decide +kernel, by decide, rfl⟩
abbrev mX6_placeOf : MI := (yX6_placeOf, cX6_placeOf, 2, some .int, false)
theorem mcX6_placeOf : MC mX6_placeOf 1 := ⟨tw_3 165 rfl rfl, tw_1 1 rfl rfl, by decide +kernel, by decide +kernel, by decide, rfl⟩
abbrev mX0_placeAt : MI := (yX0_placeAt, cX0_placeAt, 5, some .int, false)
theorem mcX0_placeAt : MC mX0_placeAt 1 := ⟨tw_3 169 rfl rfl, tw_1 8 rfl rfl, by decide +kernel, by decide +kernel, by decide, rfl⟩
abbrev mX6_told : MI := (yX6_told, cX6_told, 2, some .int, false)
theorem mcX6_told : MC mX6_told 1 := ⟨tw_3 174 rfl rfl, tw_1 1 rfl rfl, by decide +kernel, by decide +kernel, by decide, rfl⟩
abbrev mX2_countOfAll : MI := (yX2_countOfAll, cX2_countOfAll, 3, some .int, false)
theorem mcX2_countOfAll : MC mX2_countOfAll 0 := ⟨tw_3 178 rfl rfl, tw_1 6 rfl rfl, by decide +kernel, by decide +kernel, by decide, rfl⟩
abbrev mX6_lettersOfLabels : MI := (yX6_lettersOfLabels, cX6_lettersOfLabels, 3, some .int, false)
theorem mcX6_lettersOfLabels : MC mX6_lettersOfLabels 0 := ⟨tw_3 182 rfl rfl, tw_1 1 rfl rfl, by decide +kernel, by decide +kernel, by decide, rfl⟩
abbrev mX6_sheet : MI := (yX6_sheet, cX6_sheet, 2, some .int, false)
theorem mcX6_sheet : MC mX6_sheet 1 := ⟨tw_3 186 rfl rfl, tw_1 1 rfl rfl, by decide +kernel, by decide +kernel, by decide, rfl⟩
abbrev mX6_label : MI := (yX6_label, cX6_label, 2, some .int, false)
theorem mcX6_label : MC mX6_label 1 := ⟨tw_3 192 rfl rfl, tw_1 1 rfl rfl, by decide +kernel, by decide +kernel, by decide, rfl⟩
abbrev mX6_isLabel : MI := (yX6_isLabel, cX6_isLabel, 1, some .boolean, false)
theorem mcX6_isLabel : MC mX6_isLabel 1 := ⟨tw_3 195 rfl rfl, tw_1 1 rfl rfl, by decide +kernel, by decide +kernel, by decide, rfl⟩
abbrev mX6_insert : MI := (yX6_insert, cX6_insert, 4, some .int, false)
theorem mcX6_insert : MC mX6_insert 3 := ⟨tw_3 199 rfl rfl, tw_1 1 rfl rfl, by decide +kernel, by decide +kernel, by decide, rfl⟩
abbrev mX6_cut : MI := (yX6_cut, cX6_cut, 5, some .int, false)
theorem mcX6_cut : MC mX6_cut 3 := ⟨tw_3 207 rfl rfl, tw_1 1 rfl rfl, by decide +kernel, by decide +kernel, by decide, rfl⟩
abbrev mX6_refusalOfLabel : MI := (yX6_refusalOfLabel, cX6_refusalOfLabel, 2, some .int, false)
theorem mcX6_refusalOfLabel : MC mX6_refusalOfLabel 1 := ⟨tw_3 211 rfl rfl, tw_1 1 rfl rfl, by decide +kernel, by decide +kernel, by decide, rfl⟩
abbrev mX1_remove : MI := (yX1_remove, cX1_remove, 4, none, false)
theorem mcX1_remove : MC mX1_remove 2 := ⟨tw_3 215 rfl rfl, tw_1 2 rfl rfl, by decide +kernel, by decide +kernel, by decide, rfl⟩
abbrev mX6_join : MI := (yX6_join, cX6_join, 4, some .int, false)
theorem mcX6_join : MC mX6_join 2 := ⟨tw_3 219 rfl rfl, tw_1 1 rfl rfl, by decide +kernel, by decide +kernel, by decide, rfl⟩
abbrev mX6_refusalOfTwo : MI := (yX6_refusalOfTwo, cX6_refusalOfTwo, 3, some .int, false)
theorem mcX6_refusalOfTwo : MC mX6_refusalOfTwo 2 := ⟨tw_3 223 rfl rfl, tw_1 1 rfl rfl, by decide +kernel, by decide +kernel, by decide, rfl⟩
abbrev mX1_putAll : MI := (yX1_putAll, cX1_putAll, 4, none, false)
theorem mcX1_putAll : MC mX1_putAll 1 := ⟨tw_3 227 rfl rfl, tw_1 2 rfl rfl, by decide +kernel, by decide +kernel, by decide, rfl⟩
abbrev mX6_turn : MI := (yX6_turn, cX6_turn, 3, some .int, false)
theorem mcX6_turn : MC mX6_turn 1 := ⟨tw_3 231 rfl rfl, tw_1 1 rfl rfl, by decide +kernel, by decide +kernel, by decide, rfl⟩
abbrev mX1_reverse : MI := (yX1_reverse, cX1_reverse, 3, none, false)
theorem mcX1_reverse : MC mX1_reverse 0 := ⟨tw_3 235 rfl rfl, tw_1 2 rfl rfl, by decide +kernel, by decide +kernel, by decide, rfl⟩
abbrev mX6_letter : MI := (yX6_letter, cX6_letter, 4, some .int, false)
theorem mcX6_letter : MC mX6_letter 2 := ⟨tw_3 239 rfl rfl, tw_1 1 rfl rfl, by decide +kernel, by decide +kernel, by decide, rfl⟩
abbrev mX6_compare : MI := (yX6_compare, cX6_compare, 4, some .int, false)
theorem mcX6_compare : MC mX6_compare 2 := ⟨tw_4 3 rfl rfl, tw_1 1 rfl rfl, by decide +kernel, by decide +kernel, by decide, rfl⟩
abbrev mX1_orderAgainst : MI := (yX1_orderAgainst, cX1_orderAgainst, 3, some .int, false)
theorem mcX1_orderAgainst : MC mX1_orderAgainst 1 := ⟨tw_4 7 rfl rfl, tw_1 2 rfl rfl, by decide +kernel, by decide +kernel, by decide, rfl⟩
abbrev mJ6_compare_7cf53 : MI := (yJ6_compare_7cf53, cJ6_compare_7cf53, 2, some .int, false)
theorem mcJ6_compare_7cf53 : MC mJ6_compare_7cf53 2 := ⟨tw_4 10 rfl rfl, tw_1 15 rfl rfl, by decide +kernel, by decide +kernel, by decide, rfl⟩
abbrev mX6_times : MI := (yX6_times, cX6_times, 3, some .int, false)
theorem mcX6_times : MC mX6_times 1 := ⟨tw_4 14 rfl rfl, tw_1 1 rfl rfl, by decide +kernel, by decide +kernel, by decide, rfl⟩
abbrev mX1_timesOf : MI := (yX1_timesOf, cX1_timesOf, 4, some .int, false)
theorem mcX1_timesOf : MC mX1_timesOf 1 := ⟨tw_4 18 rfl rfl, tw_1 2 rfl rfl, by decide +kernel, by decide +kernel, by decide, rfl⟩
abbrev mX1_hasAt : MI := (yX1_hasAt, cX1_hasAt, 4, some .boolean, false)
theorem mcX1_hasAt : MC mX1_hasAt 2 := ⟨tw_4 22 rfl rfl, tw_1 2 rfl rfl, by decide +kernel, by decide +kernel, by decide, rfl⟩
abbrev mX6_word : MI := (yX6_word, cX6_word, 3, some .int, false)
theorem mcX6_word : MC mX6_word 1 := ⟨tw_4 26 rfl rfl, tw_1 1 rfl rfl, by decide +kernel, by decide +kernel, by decide, rfl⟩
abbrev mX6_value : MI := (yX6_value, cX6_value, 5, some .int, false)
theorem mcX6_value : MC mX6_value 1 := ⟨tw_4 31 rfl rfl, tw_1 1 rfl rfl, by decide +kernel, by decide +kernel, by decide, rfl⟩
abbrev mX6_drop : MI := (yX6_drop, cX6_drop, 3, some .int, false)
theorem mcX6_drop : MC mX6_drop 1 := ⟨tw_4 37 rfl rfl, tw_1 1 rfl rfl, by decide +kernel, by decide +kernel, by decide, rfl⟩
abbrev mX7_init : MI := (yX7_init, cX7_init, 1, none, false)
theorem mcX7_init : MC mX7_init 0 := ⟨tw_4 42 rfl rfl, tw_1 9 rfl rfl, by decide +kernel, by decide +kernel, by decide, rfl⟩
abbrev mX7_rests : MI := (yX7_rests, cX7_rests, 2, none, false)
theorem mcX7_rests : MC mX7_rests 0 := ⟨tw_4 47 rfl rfl, tw_1 9 rfl rfl, by decide +kernel, by decide +kernel, by decide, rfl⟩
abbrev mX7_layTable : MI := (yX7_layTable, cX7_layTable, 7, none, false)
theorem mcX7_layTable : MC mX7_layTable 1 := ⟨tw_4 51 rfl rfl, tw_1 9 rfl rfl, by decide +kernel, by decide +kernel, by decide, rfl⟩
abbrev mX7_wanted : MI := (yX7_wanted, cX7_wanted, 3, some .int, false)
theorem mcX7_wanted : MC mX7_wanted 2 := ⟨tw_4 55 rfl rfl, tw_1 9 rfl rfl, by decide +kernel, by decide +kernel, by decide, rfl⟩
abbrev mX7_mean : MI := (yX7_mean, cX7_mean, 7, some .int, false)
theorem mcX7_mean : MC mX7_mean 3 := ⟨tw_4 59 rfl rfl, tw_1 9 rfl rfl, by decide +kernel, by decide +kernel, by decide, rfl⟩
abbrev mX7_nearest : MI := (yX7_nearest, cX7_nearest, 3, some .int, false)
theorem mcX7_nearest : MC mX7_nearest 2 := ⟨tw_4 62 rfl rfl, tw_1 9 rfl rfl, by decide +kernel, by decide +kernel, by decide, rfl⟩
abbrev mX7_sixtyPlays : MI := (yX7_sixtyPlays, cX7_sixtyPlays, 4, some .int, false)
theorem mcX7_sixtyPlays : MC mX7_sixtyPlays 1 := ⟨tw_4 66 rfl rfl, tw_1 9 rfl rfl, by decide +kernel, by decide +kernel, by decide, rfl⟩
abbrev mX7_countAt : MI := (yX7_countAt, cX7_countAt, 3, some .int, false)
theorem mcX7_countAt : MC mX7_countAt 1 := ⟨tw_4 70 rfl rfl, tw_1 9 rfl rfl, by decide +kernel, by decide +kernel, by decide, rfl⟩
abbrev mX7_write : MI := (yX7_write, cX7_write, 2, some .int, false)
theorem mcX7_write : MC mX7_write 1 := ⟨tw_4 144 rfl rfl, tw_1 9 rfl rfl, by decide +kernel, by decide +kernel, by decide, rfl⟩
abbrev mX7_in : MI := (yX7_in, cX7_in, 6, some .boolean, false)
theorem mcX7_in : MC mX7_in 3 := ⟨tw_4 148 rfl rfl, tw_1 9 rfl rfl, by decide +kernel, by decide +kernel, by decide, rfl⟩
abbrev mX7_erase : MI := (yX7_erase, cX7_erase, 2, some .int, false)
theorem mcX7_erase : MC mX7_erase 0 := ⟨tw_4 154 rfl rfl, tw_1 9 rfl rfl, by decide +kernel, by decide +kernel, by decide, rfl⟩
abbrev mX7_fault : MI := (yX7_fault, cX7_fault, 1, some .int, false)
theorem mcX7_fault : MC mX7_fault 0 := ⟨tw_4 158 rfl rfl, tw_1 9 rfl rfl, by decide +kernel, by decide +kernel, by decide, rfl⟩
abbrev mX7_reads : MI := (yX7_reads, cX7_reads, 3, some .boolean, false)
theorem mcX7_reads : MC mX7_reads 1 := ⟨tw_4 162 rfl rfl, tw_1 9 rfl rfl, by decide +kernel, by decide +kernel, by decide, rfl⟩
abbrev mX7_nextToken : MI := (yX7_nextToken, cX7_nextToken, 2, none, false)
theorem mcX7_nextToken : MC mX7_nextToken 0 := ⟨tw_4 166 rfl rfl, tw_1 9 rfl rfl, by decide +kernel, by decide +kernel, by decide, rfl⟩
abbrev mX7_isSmall : MI := (yX7_isSmall, cX7_isSmall, 1, some .boolean, false)
theorem mcX7_isSmall : MC mX7_isSmall 1 := ⟨tw_4 169 rfl rfl, tw_1 9 rfl rfl, by decide +kernel, by decide +kernel, by decide, rfl⟩
abbrev mX7_isDigit : MI := (yX7_isDigit, cX7_isDigit, 1, some .boolean, false)
theorem mcX7_isDigit : MC mX7_isDigit 1 := ⟨tw_4 174 rfl rfl, tw_1 9 rfl rfl, by decide +kernel, by decide +kernel, by decide, rfl⟩
abbrev mX7_takesClause : MI := (yX7_takesClause, cX7_takesClause, 2, some .boolean, false)
theorem mcX7_takesClause : MC mX7_takesClause 0 := ⟨tw_4 180 rfl rfl, tw_1 9 rfl rfl, by decide +kernel, by decide +kernel, by decide, rfl⟩
abbrev mX7_wordHere : MI := (yX7_wordHere, cX7_wordHere, 6, some .int, false)
theorem mcX7_wordHere : MC mX7_wordHere 0 := ⟨tw_4 184 rfl rfl, tw_1 9 rfl rfl, by decide +kernel, by decide +kernel, by decide, rfl⟩
abbrev mX7_takesAxis : MI := (yX7_takesAxis, cX7_takesAxis, 2, some .boolean, false)
theorem mcX7_takesAxis : MC mX7_takesAxis 0 := ⟨tw_4 188 rfl rfl, tw_1 9 rfl rfl, by decide +kernel, by decide +kernel, by decide, rfl⟩
abbrev mX7_takesNumber : MI := (yX7_takesNumber, cX7_takesNumber, 4, some .boolean, false)
theorem mcX7_takesNumber : MC mX7_takesNumber 2 := ⟨tw_4 192 rfl rfl, tw_1 9 rfl rfl, by decide +kernel, by decide +kernel, by decide, rfl⟩
abbrev mX7_noRuns : MI := (yX7_noRuns, cX7_noRuns, 2, none, false)
theorem mcX7_noRuns : MC mX7_noRuns 0 := ⟨tw_4 196 rfl rfl, tw_1 9 rfl rfl, by decide +kernel, by decide +kernel, by decide, rfl⟩
abbrev mX7_takesAt : MI := (yX7_takesAt, cX7_takesAt, 3, some .boolean, false)
theorem mcX7_takesAt : MC mX7_takesAt 0 := ⟨tw_4 200 rfl rfl, tw_1 9 rfl rfl, by decide +kernel, by decide +kernel, by decide, rfl⟩
abbrev mX7_isWay : MI := (yX7_isWay, cX7_isWay, 1, some .boolean, false)
theorem mcX7_isWay : MC mX7_isWay 1 := ⟨tw_4 203 rfl rfl, tw_1 9 rfl rfl, by decide +kernel, by decide +kernel, by decide, rfl⟩
abbrev mX7_takesErr : MI := (yX7_takesErr, cX7_takesErr, 2, some .boolean, false)
theorem mcX7_takesErr : MC mX7_takesErr 0 := ⟨tw_4 207 rfl rfl, tw_1 9 rfl rfl, by decide +kernel, by decide +kernel, by decide, rfl⟩
abbrev mX7_adds : MI := (yX7_adds, cX7_adds, 7, none, false)
theorem mcX7_adds : MC mX7_adds 4 := ⟨tw_4 211 rfl rfl, tw_1 9 rfl rfl, by decide +kernel, by decide +kernel, by decide, rfl⟩
abbrev mX7_takesRuns : MI := (yX7_takesRuns, cX7_takesRuns, 3, some .boolean, false)
theorem mcX7_takesRuns : MC mX7_takesRuns 1 := ⟨tw_4 215 rfl rfl, tw_1 9 rfl rfl, by decide +kernel, by decide +kernel, by decide, rfl⟩
abbrev mX7_axis : MI := (yX7_axis, cX7_axis, 2, some .int, false)
theorem mcX7_axis : MC mX7_axis 0 := ⟨tw_4 219 rfl rfl, tw_1 9 rfl rfl, by decide +kernel, by decide +kernel, by decide, rfl⟩
abbrev mX7_run : MI := (yX7_run, cX7_run, 4, some .int, false)
theorem mcX7_run : MC mX7_run 3 := ⟨tw_4 224 rfl rfl, tw_1 9 rfl rfl, by decide +kernel, by decide +kernel, by decide, rfl⟩
abbrev mX7_isPoint : MI := (yX7_isPoint, cX7_isPoint, 2, some .boolean, false)
theorem mcX7_isPoint : MC mX7_isPoint 1 := ⟨tw_4 228 rfl rfl, tw_1 9 rfl rfl, by decide +kernel, by decide +kernel, by decide, rfl⟩
abbrev mX7_isErr : MI := (yX7_isErr, cX7_isErr, 1, some .boolean, false)
theorem mcX7_isErr : MC mX7_isErr 1 := ⟨tw_4 232 rfl rfl, tw_1 9 rfl rfl, by decide +kernel, by decide +kernel, by decide, rfl⟩
abbrev mX7_minds : MI := (yX7_minds, cX7_minds, 2, none, false)
theorem mcX7_minds : MC mX7_minds 0 := ⟨tw_4 238 rfl rfl, tw_1 9 rfl rfl, by decide +kernel, by decide +kernel, by decide, rfl⟩
abbrev mX7_copy : MI := (yX7_copy, cX7_copy, 4, none, false)
theorem mcX7_copy : MC mX7_copy 2 := ⟨tw_5 2 rfl rfl, tw_1 9 rfl rfl, by decide +kernel, by decide +kernel, by decide, rfl⟩
abbrev mX7_clear : MI := (yX7_clear, cX7_clear, 4, some .int, false)
theorem mcX7_clear : MC mX7_clear 2 := ⟨tw_5 6 rfl rfl, tw_1 9 rfl rfl, by decide +kernel, by decide +kernel, by decide, rfl⟩
abbrev mX7_undo : MI := (yX7_undo, cX7_undo, 1, some .int, false)
theorem mcX7_undo : MC mX7_undo 0 := ⟨tw_5 10 rfl rfl, tw_1 9 rfl rfl, by decide +kernel, by decide +kernel, by decide, rfl⟩
abbrev mX7_keep : MI := (yX7_keep, cX7_keep, 2, some .int, false)
theorem mcX7_keep : MC mX7_keep 1 := ⟨tw_5 14 rfl rfl, tw_1 9 rfl rfl, by decide +kernel, by decide +kernel, by decide, rfl⟩
abbrev mX7_back : MI := (yX7_back, cX7_back, 2, some .int, false)
theorem mcX7_back : MC mX7_back 1 := ⟨tw_5 18 rfl rfl, tw_1 9 rfl rfl, by decide +kernel, by decide +kernel, by decide, rfl⟩
abbrev mX7_runAt : MI := (yX7_runAt, cX7_runAt, 5, some .int, false)
theorem mcX7_runAt : MC mX7_runAt 3 := ⟨tw_5 22 rfl rfl, tw_1 9 rfl rfl, by decide +kernel, by decide +kernel, by decide, rfl⟩
abbrev mX7_point : MI := (yX7_point, cX7_point, 4, some .int, false)
theorem mcX7_point : MC mX7_point 3 := ⟨tw_5 27 rfl rfl, tw_1 9 rfl rfl, by decide +kernel, by decide +kernel, by decide, rfl⟩
abbrev mX7_part : MI := (yX7_part, cX7_part, 7, some .int, false)
theorem mcX7_part : MC mX7_part 3 := ⟨tw_5 32 rfl rfl, tw_1 9 rfl rfl, by decide +kernel, by decide +kernel, by decide, rfl⟩
abbrev mX7_missed : MI := (yX7_missed, cX7_missed, 3, some .int, false)
theorem mcX7_missed : MC mX7_missed 2 := ⟨tw_5 36 rfl rfl, tw_1 9 rfl rfl, by decide +kernel, by decide +kernel, by decide, rfl⟩
abbrev mX7_table : MI := (yX7_table, cX7_table, 3, some .int, false)
theorem mcX7_table : MC mX7_table 2 := ⟨tw_5 40 rfl rfl, tw_1 9 rfl rfl, by decide +kernel, by decide +kernel, by decide, rfl⟩
abbrev mX7_firstOf : MI := (yX7_firstOf, cX7_firstOf, 3, some .int, false)
theorem mcX7_firstOf : MC mX7_firstOf 1 := ⟨tw_5 45 rfl rfl, tw_1 9 rfl rfl, by decide +kernel, by decide +kernel, by decide, rfl⟩
abbrev mX7_play : MI := (yX7_play, cX7_play, 2, some .int, false)
theorem mcX7_play : MC mX7_play 1 := ⟨tw_5 49 rfl rfl, tw_1 9 rfl rfl, by decide +kernel, by decide +kernel, by decide, rfl⟩
abbrev mX7_worst : MI := (yX7_worst, cX7_worst, 5, some .int, false)
theorem mcX7_worst : MC mX7_worst 0 := ⟨tw_5 53 rfl rfl, tw_1 9 rfl rfl, by decide +kernel, by decide +kernel, by decide, rfl⟩
abbrev mX7_merged : MI := (yX7_merged, cX7_merged, 4, some .int, false)
theorem mcX7_merged : MC mX7_merged 3 := ⟨tw_5 57 rfl rfl, tw_1 9 rfl rfl, by decide +kernel, by decide +kernel, by decide, rfl⟩
abbrev mX7_move : MI := (yX7_move, cX7_move, 4, some .int, false)
theorem mcX7_move : MC mX7_move 1 := ⟨tw_5 61 rfl rfl, tw_1 9 rfl rfl, by decide +kernel, by decide +kernel, by decide, rfl⟩
abbrev mX7_last : MI := (yX7_last, cX7_last, 1, some .int, false)
theorem mcX7_last : MC mX7_last 0 := ⟨tw_5 65 rfl rfl, tw_1 9 rfl rfl, by decide +kernel, by decide +kernel, by decide, rfl⟩
abbrev mX7_countOf : MI := (yX7_countOf, cX7_countOf, 2, some .int, false)
theorem mcX7_countOf : MC mX7_countOf 1 := ⟨tw_5 69 rfl rfl, tw_1 9 rfl rfl, by decide +kernel, by decide +kernel, by decide, rfl⟩
abbrev mX7_placeOf : MI := (yX7_placeOf, cX7_placeOf, 3, some .int, false)
theorem mcX7_placeOf : MC mX7_placeOf 1 := ⟨tw_5 73 rfl rfl, tw_1 9 rfl rfl, by decide +kernel, by decide +kernel, by decide, rfl⟩
abbrev mX7_told : MI := (yX7_told, cX7_told, 2, some .int, false)
theorem mcX7_told : MC mX7_told 1 := ⟨tw_5 79 rfl rfl, tw_1 9 rfl rfl, by decide +kernel, by decide +kernel, by decide, rfl⟩
abbrev mX7_playNow : MI := (yX7_playNow, cX7_playNow, 1, some .int, false)
theorem mcX7_playNow : MC mX7_playNow 0 := ⟨tw_5 83 rfl rfl, tw_1 9 rfl rfl, by decide +kernel, by decide +kernel, by decide, rfl⟩
abbrev mX7_runs : MI := (yX7_runs, cX7_runs, 3, some .int, false)
theorem mcX7_runs : MC mX7_runs 0 := ⟨tw_5 87 rfl rfl, tw_1 9 rfl rfl, by decide +kernel, by decide +kernel, by decide, rfl⟩
abbrev mX7_sheetLong : MI := (yX7_sheetLong, cX7_sheetLong, 1, some .int, false)
theorem mcX7_sheetLong : MC mX7_sheetLong 0 := ⟨tw_5 91 rfl rfl, tw_1 9 rfl rfl, by decide +kernel, by decide +kernel, by decide, rfl⟩
abbrev mX7_laySheet : MI := (yX7_laySheet, cX7_laySheet, 3, none, false)
theorem mcX7_laySheet : MC mX7_laySheet 0 := ⟨tw_5 95 rfl rfl, tw_1 9 rfl rfl, by decide +kernel, by decide +kernel, by decide, rfl⟩
abbrev mX7_puts : MI := (yX7_puts, cX7_puts, 2, none, false)
theorem mcX7_puts : MC mX7_puts 1 := ⟨tw_5 99 rfl rfl, tw_1 9 rfl rfl, by decide +kernel, by decide +kernel, by decide, rfl⟩
abbrev mX7_putsNumber : MI := (yX7_putsNumber, cX7_putsNumber, 3, none, false)
theorem mcX7_putsNumber : MC mX7_putsNumber 1 := ⟨tw_5 103 rfl rfl, tw_1 9 rfl rfl, by decide +kernel, by decide +kernel, by decide, rfl⟩
abbrev mX7_lettersOfAll : MI := (yX7_lettersOfAll, cX7_lettersOfAll, 3, some .int, false)
theorem mcX7_lettersOfAll : MC mX7_lettersOfAll 0 := ⟨tw_5 107 rfl rfl, tw_1 9 rfl rfl, by decide +kernel, by decide +kernel, by decide, rfl⟩
abbrev mX7_sheet : MI := (yX7_sheet, cX7_sheet, 2, some .int, false)
theorem mcX7_sheet : MC mX7_sheet 1 := ⟨tw_5 111 rfl rfl, tw_1 9 rfl rfl, by decide +kernel, by decide +kernel, by decide, rfl⟩
abbrev mX7_label : MI := (yX7_label, cX7_label, 2, some .int, false)
theorem mcX7_label : MC mX7_label 1 := ⟨tw_5 115 rfl rfl, tw_1 9 rfl rfl, by decide +kernel, by decide +kernel, by decide, rfl⟩
abbrev mX7_isLabel : MI := (yX7_isLabel, cX7_isLabel, 1, some .boolean, false)
theorem mcX7_isLabel : MC mX7_isLabel 1 := ⟨tw_5 118 rfl rfl, tw_1 9 rfl rfl, by decide +kernel, by decide +kernel, by decide, rfl⟩
abbrev mX7_insert : MI := (yX7_insert, cX7_insert, 5, some .int, false)
theorem mcX7_insert : MC mX7_insert 3 := ⟨tw_5 122 rfl rfl, tw_1 9 rfl rfl, by decide +kernel, by decide +kernel, by decide, rfl⟩
abbrev mX7_cut : MI := (yX7_cut, cX7_cut, 5, some .int, false)
theorem mcX7_cut : MC mX7_cut 3 := ⟨tw_5 131 rfl rfl, tw_1 9 rfl rfl, by decide +kernel, by decide +kernel, by decide, rfl⟩
abbrev mX7_join : MI := (yX7_join, cX7_join, 5, some .int, false)
theorem mcX7_join : MC mX7_join 2 := ⟨tw_5 135 rfl rfl, tw_1 9 rfl rfl, by decide +kernel, by decide +kernel, by decide, rfl⟩
abbrev mX7_turn : MI := (yX7_turn, cX7_turn, 5, some .int, false)
theorem mcX7_turn : MC mX7_turn 1 := ⟨tw_5 139 rfl rfl, tw_1 9 rfl rfl, by decide +kernel, by decide +kernel, by decide, rfl⟩
abbrev mX7_letter : MI := (yX7_letter, cX7_letter, 3, some .int, false)
theorem mcX7_letter : MC mX7_letter 2 := ⟨tw_5 143 rfl rfl, tw_1 9 rfl rfl, by decide +kernel, by decide +kernel, by decide, rfl⟩
abbrev mX7_compare : MI := (yX7_compare, cX7_compare, 5, some .int, false)
theorem mcX7_compare : MC mX7_compare 2 := ⟨tw_5 147 rfl rfl, tw_1 9 rfl rfl, by decide +kernel, by decide +kernel, by decide, rfl⟩
abbrev mX7_times : MI := (yX7_times, cX7_times, 6, some .int, false)
theorem mcX7_times : MC mX7_times 1 := ⟨tw_5 151 rfl rfl, tw_1 9 rfl rfl, by decide +kernel, by decide +kernel, by decide, rfl⟩
abbrev mX7_word : MI := (yX7_word, cX7_word, 7, some .int, false)
theorem mcX7_word : MC mX7_word 1 := ⟨tw_5 155 rfl rfl, tw_1 9 rfl rfl, by decide +kernel, by decide +kernel, by decide, rfl⟩
abbrev mX7_value : MI := (yX7_value, cX7_value, 7, some .int, false)
theorem mcX7_value : MC mX7_value 1 := ⟨tw_5 159 rfl rfl, tw_1 9 rfl rfl, by decide +kernel, by decide +kernel, by decide, rfl⟩
abbrev mX7_drop : MI := (yX7_drop, cX7_drop, 3, some .int, false)
theorem mcX7_drop : MC mX7_drop 1 := ⟨tw_5 165 rfl rfl, tw_1 9 rfl rfl, by decide +kernel, by decide +kernel, by decide, rfl⟩
def MV (M : MI) : Prop := Cond.instanceMethod (MI.y M) ∈ TW ∧ Cond.selects (MI.own M) (MI.y M) (MI.y M) ∈ TW
theorem mnX6_init : Cond.instanceMethod yX6_init ∈ TW := tw_1 19 rfl rfl
theorem mnX1_init : Cond.instanceMethod yX1_init ∈ TW := tw_1 27 rfl rfl
theorem msJ9_max_7cf53 : Cond.static yJ9_max_7cf53 ∈ TW := tw_1 31 rfl rfl
theorem mnX5_init : Cond.instanceMethod yX5_init ∈ TW := tw_1 47 rfl rfl
theorem mnX3_init : Cond.instanceMethod yX3_init ∈ TW := tw_1 73 rfl rfl
theorem mnX2_init : Cond.instanceMethod yX2_init ∈ TW := tw_1 79 rfl rfl
theorem mnX4_init : Cond.instanceMethod yX4_init ∈ TW := tw_1 126 rfl rfl
theorem mnX0_init : Cond.instanceMethod yX0_init ∈ TW := tw_1 146 rfl rfl
theorem mvX6_reckonAnew : MV mX6_reckonAnew := ⟨tw_1 196 rfl rfl, tw_p1 0 rfl⟩
theorem mvX0_reckon : MV mX0_reckon := ⟨tw_1 199 rfl rfl, tw_1 200 rfl rfl⟩
theorem msJ9_min_7cf53 : Cond.static yJ9_min_7cf53 ∈ TW := tw_1 203 rfl rfl
theorem mvX0_takeMeans : MV mX0_takeMeans := ⟨tw_1 208 rfl rfl, tw_p1 1 rfl⟩
theorem mvX2_meanOf : MV mX2_meanOf := ⟨tw_1 211 rfl rfl, tw_1 212 rfl rfl⟩
theorem mvX2_countAt : MV mX2_countAt := ⟨tw_1 215 rfl rfl, tw_1 216 rfl rfl⟩
theorem mvX2_slotOf : MV mX2_slotOf := ⟨tw_1 220 rfl rfl, tw_p1 2 rfl⟩
theorem mvX2_errAt : MV mX2_errAt := ⟨tw_1 223 rfl rfl, tw_1 224 rfl rfl⟩
theorem mvX0_slopeAt : MV mX0_slopeAt := ⟨tw_1 228 rfl rfl, tw_1 229 rfl rfl⟩
theorem mvX0_meanAt : MV mX0_meanAt := ⟨tw_1 232 rfl rfl, tw_1 233 rfl rfl⟩
theorem mvX0_hasPoint : MV mX0_hasPoint := ⟨tw_1 236 rfl rfl, tw_1 237 rfl rfl⟩
theorem msX6_isWay : Cond.static yX6_isWay ∈ TW := tw_2 0 rfl rfl
theorem mvX0_takePlay : MV mX0_takePlay := ⟨tw_2 4 rfl rfl, tw_p1 3 rfl⟩
theorem msX6_nearestLesser : Cond.static yX6_nearestLesser ∈ TW := tw_2 7 rfl rfl
theorem msJ9_floorDiv_7cf53 : Cond.static yJ9_floorDiv_7cf53 ∈ TW := tw_2 10 rfl rfl
theorem mvX0_poolWanted : MV mX0_poolWanted := ⟨tw_2 14 rfl rfl, tw_p1 4 rfl⟩
theorem mvX0_lastIsNotMore : MV mX0_lastIsNotMore := ⟨tw_2 18 rfl rfl, tw_p1 5 rfl⟩
theorem mvX0_makeCounts : MV mX0_makeCounts := ⟨tw_2 22 rfl rfl, tw_p1 6 rfl⟩
theorem mvX0_poolTotalAt : MV mX0_poolTotalAt := ⟨tw_2 25 rfl rfl, tw_2 26 rfl rfl⟩
theorem mvX0_poolSizeAt : MV mX0_poolSizeAt := ⟨tw_2 29 rfl rfl, tw_2 30 rfl rfl⟩
theorem mvX0_writeOut : MV mX0_writeOut := ⟨tw_2 33 rfl rfl, tw_2 34 rfl rfl⟩
theorem mvX0_offsetAt : MV mX0_offsetAt := ⟨tw_2 37 rfl rfl, tw_2 38 rfl rfl⟩
theorem mvX0_tableAt : MV mX0_tableAt := ⟨tw_2 41 rfl rfl, tw_2 42 rfl rfl⟩
theorem mvX1_putNumber : MV mX1_putNumber := ⟨tw_2 45 rfl rfl, tw_2 46 rfl rfl⟩
theorem mvX1_put : MV mX1_put := ⟨tw_2 49 rfl rfl, tw_2 50 rfl rfl⟩
theorem mvX1_putAt : MV mX1_putAt := ⟨tw_2 53 rfl rfl, tw_2 54 rfl rfl⟩
theorem mvX1_hasRoomFor : MV mX1_hasRoomFor := ⟨tw_2 57 rfl rfl, tw_2 58 rfl rfl⟩
theorem msJ9_abs_0f7a4 : Cond.static yJ9_abs_0f7a4 ∈ TW := tw_2 62 rfl rfl
theorem mvX6_write : MV mX6_write := ⟨tw_2 102 rfl rfl, tw_2 103 rfl rfl⟩
theorem mvX6_erase : MV mX6_erase := ⟨tw_2 110 rfl rfl, tw_2 111 rfl rfl⟩
theorem mvX6_fault : MV mX6_fault := ⟨tw_2 114 rfl rfl, tw_2 115 rfl rfl⟩
theorem mvX2_copyFrom : MV mX2_copyFrom := ⟨tw_2 118 rfl rfl, tw_2 119 rfl rfl⟩
theorem mvX5_readInto : MV mX5_readInto := ⟨tw_2 125 rfl rfl, tw_2 126 rfl rfl⟩
theorem mvX5_partIntoTokens : MV mX5_partIntoTokens := ⟨tw_2 130 rfl rfl, tw_p1 7 rfl⟩
theorem mvX1_at : MV mX1_at := ⟨tw_2 133 rfl rfl, tw_2 134 rfl rfl⟩
theorem msX6_isSmallLetter : Cond.static yX6_isSmallLetter ∈ TW := tw_2 137 rfl rfl
theorem mvX1_wordIn : MV mX1_wordIn := ⟨tw_2 140 rfl rfl, tw_2 141 rfl rfl⟩
theorem mvX1_spells : MV mX1_spells := ⟨tw_2 146 rfl rfl, tw_p1 8 rfl⟩
theorem mvJ0_length_8abf5 : MV mJ0_length_8abf5 := ⟨tw_2 149 rfl rfl, tw_2 150 rfl rfl⟩
theorem mvJ0_coder_7d493 : MV mJ0_coder_7d493 := ⟨tw_2 153 rfl rfl, tw_2 154 rfl rfl⟩
theorem mvJ0_charAt_5068e : MV mJ0_charAt_5068e := ⟨tw_2 160 rfl rfl, tw_2 161 rfl rfl⟩
theorem mvJ0_isLatin1_aae02 : MV mJ0_isLatin1_aae02 := ⟨tw_2 164 rfl rfl, tw_2 165 rfl rfl⟩
theorem msJ1_charAt_3b067 : Cond.static yJ1_charAt_3b067 ∈ TW := tw_2 168 rfl rfl
theorem msJ0_checkIndex_df160 : Cond.static yJ0_checkIndex_df160 ∈ TW := tw_2 171 rfl rfl
theorem msJ3_checkIndex_8e157 : Cond.static yJ3_checkIndex_8e157 ∈ TW := tw_2 176 rfl rfl
theorem msJ2_charAt_3b067 : Cond.static yJ2_charAt_3b067 ∈ TW := tw_2 179 rfl rfl
theorem msJ2_checkIndex_2214a : Cond.static yJ2_checkIndex_2214a ∈ TW := tw_2 182 rfl rfl
theorem msJ2_length_9d52b : Cond.static yJ2_length_9d52b ∈ TW := tw_2 185 rfl rfl
theorem msJ2_getChar_3b067 : Cond.static yJ2_getChar_3b067 ∈ TW := tw_2 189 rfl rfl
theorem mvX5_addToken : MV mX5_addToken := ⟨tw_2 203 rfl rfl, tw_p1 9 rfl⟩
theorem msX6_isDigit : Cond.static yX6_isDigit ∈ TW := tw_2 206 rfl rfl
theorem mvX1_numberIn : MV mX1_numberIn := ⟨tw_2 209 rfl rfl, tw_2 210 rfl rfl⟩
theorem mvX5_readClause : MV mX5_readClause := ⟨tw_2 215 rfl rfl, tw_p1 10 rfl⟩
theorem mvX5_goOn : MV mX5_goOn := ⟨tw_2 219 rfl rfl, tw_p1 11 rfl⟩
theorem mvX5_readRow : MV mX5_readRow := ⟨tw_2 223 rfl rfl, tw_p1 12 rfl⟩
theorem mvX5_readErr : MV mX5_readErr := ⟨tw_2 227 rfl rfl, tw_p1 13 rfl⟩
theorem mvX5_isSign : MV mX5_isSign := ⟨tw_2 231 rfl rfl, tw_p1 14 rfl⟩
theorem mvX5_readNumber : MV mX5_readNumber := ⟨tw_2 235 rfl rfl, tw_p1 15 rfl⟩
theorem mvX2_add : MV mX2_add := ⟨tw_2 238 rfl rfl, tw_2 239 rfl rfl⟩
theorem mvX5_readAxis : MV mX5_readAxis := ⟨tw_3 3 rfl rfl, tw_p2 0 rfl⟩
theorem mvX2_begin : MV mX2_begin := ⟨tw_3 6 rfl rfl, tw_3 7 rfl rfl⟩
theorem mvX5_readOne : MV mX5_readOne := ⟨tw_3 13 rfl rfl, tw_p2 1 rfl⟩
theorem mvX6_axis : MV mX6_axis := ⟨tw_3 18 rfl rfl, tw_3 19 rfl rfl⟩
theorem mvX0_countAt : MV mX0_countAt := ⟨tw_3 23 rfl rfl, tw_3 24 rfl rfl⟩
theorem mvX0_hasPlace : MV mX0_hasPlace := ⟨tw_3 27 rfl rfl, tw_3 28 rfl rfl⟩
theorem mvX3_rest : MV mX3_rest := ⟨tw_3 32 rfl rfl, tw_3 33 rfl rfl⟩
theorem mvX4_forgetAll : MV mX4_forgetAll := ⟨tw_3 36 rfl rfl, tw_3 37 rfl rfl⟩
theorem mvX6_run : MV mX6_run := ⟨tw_3 40 rfl rfl, tw_3 41 rfl rfl⟩
theorem mvX6_refusalOfRun : MV mX6_refusalOfRun := ⟨tw_3 45 rfl rfl, tw_p2 2 rfl⟩
theorem mvX2_hasPoint : MV mX2_hasPoint := ⟨tw_3 48 rfl rfl, tw_3 49 rfl rfl⟩
theorem mvX4_remember : MV mX4_remember := ⟨tw_3 54 rfl rfl, tw_3 55 rfl rfl⟩
theorem mvX3_copyFrom : MV mX3_copyFrom := ⟨tw_3 58 rfl rfl, tw_3 59 rfl rfl⟩
theorem mvX6_clear : MV mX6_clear := ⟨tw_3 65 rfl rfl, tw_3 66 rfl rfl⟩
theorem mvX2_forget : MV mX2_forget := ⟨tw_3 70 rfl rfl, tw_3 71 rfl rfl⟩
theorem mvX6_undo : MV mX6_undo := ⟨tw_3 74 rfl rfl, tw_3 75 rfl rfl⟩
theorem mvX4_recallInto : MV mX4_recallInto := ⟨tw_3 78 rfl rfl, tw_3 79 rfl rfl⟩
theorem mvX6_keep : MV mX6_keep := ⟨tw_3 82 rfl rfl, tw_3 83 rfl rfl⟩
theorem mvX6_back : MV mX6_back := ⟨tw_3 87 rfl rfl, tw_3 88 rfl rfl⟩
theorem mvX6_runAt : MV mX6_runAt := ⟨tw_3 91 rfl rfl, tw_3 92 rfl rfl⟩
theorem mvX6_point : MV mX6_point := ⟨tw_3 96 rfl rfl, tw_3 97 rfl rfl⟩
theorem msX6_isPart : Cond.static yX6_isPart ∈ TW := tw_3 101 rfl rfl
theorem msX6_partOf : Cond.static yX6_partOf ∈ TW := tw_3 105 rfl rfl
theorem msX6_greatestDivisor : Cond.static yX6_greatestDivisor ∈ TW := tw_3 109 rfl rfl
theorem mvX0_wantedAt : MV mX0_wantedAt := ⟨tw_3 113 rfl rfl, tw_3 114 rfl rfl⟩
theorem mvX0_missAt : MV mX0_missAt := ⟨tw_3 119 rfl rfl, tw_3 120 rfl rfl⟩
theorem mvX6_table : MV mX6_table := ⟨tw_3 123 rfl rfl, tw_3 124 rfl rfl⟩
theorem mvX0_poolFirstAt : MV mX0_poolFirstAt := ⟨tw_3 128 rfl rfl, tw_3 129 rfl rfl⟩
theorem mvX6_play : MV mX6_play := ⟨tw_3 132 rfl rfl, tw_3 133 rfl rfl⟩
theorem mvX6_worst : MV mX6_worst := ⟨tw_3 136 rfl rfl, tw_3 137 rfl rfl⟩
theorem mvX0_worstSlot : MV mX0_worstSlot := ⟨tw_3 140 rfl rfl, tw_3 141 rfl rfl⟩
theorem mvX6_merged : MV mX6_merged := ⟨tw_3 145 rfl rfl, tw_3 146 rfl rfl⟩
theorem mvX6_move : MV mX6_move := ⟨tw_3 149 rfl rfl, tw_3 150 rfl rfl⟩
theorem mvX3_go : MV mX3_go := ⟨tw_3 154 rfl rfl, tw_3 155 rfl rfl⟩
theorem mvX6_countOf : MV mX6_countOf := ⟨tw_3 159 rfl rfl, tw_3 160 rfl rfl⟩
theorem mvX6_placeOf : MV mX6_placeOf := ⟨tw_3 163 rfl rfl, tw_3 164 rfl rfl⟩
theorem mvX0_placeAt : MV mX0_placeAt := ⟨tw_3 167 rfl rfl, tw_3 168 rfl rfl⟩
theorem mvX6_told : MV mX6_told := ⟨tw_3 172 rfl rfl, tw_3 173 rfl rfl⟩
theorem mvX2_countOfAll : MV mX2_countOfAll := ⟨tw_3 176 rfl rfl, tw_3 177 rfl rfl⟩
theorem mvX6_lettersOfLabels : MV mX6_lettersOfLabels := ⟨tw_3 181 rfl rfl, tw_p2 3 rfl⟩
theorem mvX6_sheet : MV mX6_sheet := ⟨tw_3 184 rfl rfl, tw_3 185 rfl rfl⟩
theorem mvX6_label : MV mX6_label := ⟨tw_3 190 rfl rfl, tw_3 191 rfl rfl⟩
theorem msX6_isLabel : Cond.static yX6_isLabel ∈ TW := tw_3 194 rfl rfl
theorem mvX6_insert : MV mX6_insert := ⟨tw_3 197 rfl rfl, tw_3 198 rfl rfl⟩
theorem mvX6_cut : MV mX6_cut := ⟨tw_3 205 rfl rfl, tw_3 206 rfl rfl⟩
theorem mvX6_refusalOfLabel : MV mX6_refusalOfLabel := ⟨tw_3 210 rfl rfl, tw_p2 4 rfl⟩
theorem mvX1_remove : MV mX1_remove := ⟨tw_3 213 rfl rfl, tw_3 214 rfl rfl⟩
theorem mvX6_join : MV mX6_join := ⟨tw_3 217 rfl rfl, tw_3 218 rfl rfl⟩
theorem mvX6_refusalOfTwo : MV mX6_refusalOfTwo := ⟨tw_3 222 rfl rfl, tw_p2 5 rfl⟩
theorem mvX1_putAll : MV mX1_putAll := ⟨tw_3 225 rfl rfl, tw_3 226 rfl rfl⟩
theorem mvX6_turn : MV mX6_turn := ⟨tw_3 229 rfl rfl, tw_3 230 rfl rfl⟩
theorem mvX1_reverse : MV mX1_reverse := ⟨tw_3 233 rfl rfl, tw_3 234 rfl rfl⟩
theorem mvX6_letter : MV mX6_letter := ⟨tw_3 237 rfl rfl, tw_3 238 rfl rfl⟩
theorem mvX6_compare : MV mX6_compare := ⟨tw_4 1 rfl rfl, tw_4 2 rfl rfl⟩
theorem mvX1_orderAgainst : MV mX1_orderAgainst := ⟨tw_4 5 rfl rfl, tw_4 6 rfl rfl⟩
theorem msJ6_compare_7cf53 : Cond.static yJ6_compare_7cf53 ∈ TW := tw_4 9 rfl rfl
theorem mvX6_times : MV mX6_times := ⟨tw_4 12 rfl rfl, tw_4 13 rfl rfl⟩
theorem mvX1_timesOf : MV mX1_timesOf := ⟨tw_4 16 rfl rfl, tw_4 17 rfl rfl⟩
theorem mvX1_hasAt : MV mX1_hasAt := ⟨tw_4 21 rfl rfl, tw_p2 6 rfl⟩
theorem mvX6_word : MV mX6_word := ⟨tw_4 24 rfl rfl, tw_4 25 rfl rfl⟩
theorem mvX6_value : MV mX6_value := ⟨tw_4 29 rfl rfl, tw_4 30 rfl rfl⟩
theorem mvX6_drop : MV mX6_drop := ⟨tw_4 35 rfl rfl, tw_4 36 rfl rfl⟩
theorem mnX7_init : Cond.instanceMethod yX7_init ∈ TW := tw_4 41 rfl rfl
theorem mvX7_rests : MV mX7_rests := ⟨tw_4 46 rfl rfl, tw_p2 7 rfl⟩
theorem mvX7_layTable : MV mX7_layTable := ⟨tw_4 50 rfl rfl, tw_p2 8 rfl⟩
theorem mvX7_wanted : MV mX7_wanted := ⟨tw_4 54 rfl rfl, tw_p2 9 rfl⟩
theorem mvX7_mean : MV mX7_mean := ⟨tw_4 58 rfl rfl, tw_p2 10 rfl⟩
theorem msX7_nearest : Cond.static yX7_nearest ∈ TW := tw_4 61 rfl rfl
theorem mvX7_sixtyPlays : MV mX7_sixtyPlays := ⟨tw_4 65 rfl rfl, tw_p2 11 rfl⟩
theorem mvX7_countAt : MV mX7_countAt := ⟨tw_4 69 rfl rfl, tw_p2 12 rfl⟩
theorem mvX7_write : MV mX7_write := ⟨tw_4 142 rfl rfl, tw_4 143 rfl rfl⟩
theorem msX7_in : Cond.static yX7_in ∈ TW := tw_4 147 rfl rfl
theorem mvX7_erase : MV mX7_erase := ⟨tw_4 152 rfl rfl, tw_4 153 rfl rfl⟩
theorem mvX7_fault : MV mX7_fault := ⟨tw_4 156 rfl rfl, tw_4 157 rfl rfl⟩
theorem mvX7_reads : MV mX7_reads := ⟨tw_4 161 rfl rfl, tw_p2 13 rfl⟩
theorem mvX7_nextToken : MV mX7_nextToken := ⟨tw_4 165 rfl rfl, tw_p2 14 rfl⟩
theorem msX7_isSmall : Cond.static yX7_isSmall ∈ TW := tw_4 168 rfl rfl
theorem msX7_isDigit : Cond.static yX7_isDigit ∈ TW := tw_4 173 rfl rfl
theorem mvX7_takesClause : MV mX7_takesClause := ⟨tw_4 179 rfl rfl, tw_p2 15 rfl⟩
theorem mvX7_wordHere : MV mX7_wordHere := ⟨tw_4 183 rfl rfl, tw_p3 0 rfl⟩
theorem mvX7_takesAxis : MV mX7_takesAxis := ⟨tw_4 187 rfl rfl, tw_p3 1 rfl⟩
theorem mvX7_takesNumber : MV mX7_takesNumber := ⟨tw_4 191 rfl rfl, tw_p3 2 rfl⟩
theorem mvX7_noRuns : MV mX7_noRuns := ⟨tw_4 195 rfl rfl, tw_p3 3 rfl⟩
theorem mvX7_takesAt : MV mX7_takesAt := ⟨tw_4 199 rfl rfl, tw_p3 4 rfl⟩
theorem msX7_isWay : Cond.static yX7_isWay ∈ TW := tw_4 202 rfl rfl
theorem mvX7_takesErr : MV mX7_takesErr := ⟨tw_4 206 rfl rfl, tw_p3 5 rfl⟩
theorem mvX7_adds : MV mX7_adds := ⟨tw_4 210 rfl rfl, tw_p3 6 rfl⟩
theorem mvX7_takesRuns : MV mX7_takesRuns := ⟨tw_4 214 rfl rfl, tw_p3 7 rfl⟩
theorem mvX7_axis : MV mX7_axis := ⟨tw_4 217 rfl rfl, tw_4 218 rfl rfl⟩
theorem mvX7_run : MV mX7_run := ⟨tw_4 222 rfl rfl, tw_4 223 rfl rfl⟩
theorem mvX7_isPoint : MV mX7_isPoint := ⟨tw_4 227 rfl rfl, tw_p3 8 rfl⟩
theorem msX7_isErr : Cond.static yX7_isErr ∈ TW := tw_4 231 rfl rfl
theorem mvX7_minds : MV mX7_minds := ⟨tw_4 237 rfl rfl, tw_p3 9 rfl⟩
theorem mvX7_copy : MV mX7_copy := ⟨tw_5 1 rfl rfl, tw_p3 10 rfl⟩
theorem mvX7_clear : MV mX7_clear := ⟨tw_5 4 rfl rfl, tw_5 5 rfl rfl⟩
theorem mvX7_undo : MV mX7_undo := ⟨tw_5 8 rfl rfl, tw_5 9 rfl rfl⟩
theorem mvX7_keep : MV mX7_keep := ⟨tw_5 12 rfl rfl, tw_5 13 rfl rfl⟩
theorem mvX7_back : MV mX7_back := ⟨tw_5 16 rfl rfl, tw_5 17 rfl rfl⟩
theorem mvX7_runAt : MV mX7_runAt := ⟨tw_5 20 rfl rfl, tw_5 21 rfl rfl⟩
theorem mvX7_point : MV mX7_point := ⟨tw_5 25 rfl rfl, tw_5 26 rfl rfl⟩
theorem mvX7_part : MV mX7_part := ⟨tw_5 31 rfl rfl, tw_p3 11 rfl⟩
theorem mvX7_missed : MV mX7_missed := ⟨tw_5 35 rfl rfl, tw_p3 12 rfl⟩
theorem mvX7_table : MV mX7_table := ⟨tw_5 38 rfl rfl, tw_5 39 rfl rfl⟩
theorem mvX7_firstOf : MV mX7_firstOf := ⟨tw_5 44 rfl rfl, tw_p3 13 rfl⟩
theorem mvX7_play : MV mX7_play := ⟨tw_5 47 rfl rfl, tw_5 48 rfl rfl⟩
theorem mvX7_worst : MV mX7_worst := ⟨tw_5 51 rfl rfl, tw_5 52 rfl rfl⟩
theorem mvX7_merged : MV mX7_merged := ⟨tw_5 55 rfl rfl, tw_5 56 rfl rfl⟩
theorem mvX7_move : MV mX7_move := ⟨tw_5 59 rfl rfl, tw_5 60 rfl rfl⟩
theorem mvX7_last : MV mX7_last := ⟨tw_5 64 rfl rfl, tw_p3 14 rfl⟩
theorem mvX7_countOf : MV mX7_countOf := ⟨tw_5 67 rfl rfl, tw_5 68 rfl rfl⟩
theorem mvX7_placeOf : MV mX7_placeOf := ⟨tw_5 71 rfl rfl, tw_5 72 rfl rfl⟩
theorem mvX7_told : MV mX7_told := ⟨tw_5 77 rfl rfl, tw_5 78 rfl rfl⟩
theorem mvX7_playNow : MV mX7_playNow := ⟨tw_5 82 rfl rfl, tw_p3 15 rfl⟩
theorem mvX7_runs : MV mX7_runs := ⟨tw_5 86 rfl rfl, tw_p4 0 rfl⟩
theorem mvX7_sheetLong : MV mX7_sheetLong := ⟨tw_5 90 rfl rfl, tw_p4 1 rfl⟩
theorem mvX7_laySheet : MV mX7_laySheet := ⟨tw_5 94 rfl rfl, tw_p4 2 rfl⟩
theorem mvX7_puts : MV mX7_puts := ⟨tw_5 98 rfl rfl, tw_p4 3 rfl⟩
theorem mvX7_putsNumber : MV mX7_putsNumber := ⟨tw_5 102 rfl rfl, tw_p4 4 rfl⟩
theorem mvX7_lettersOfAll : MV mX7_lettersOfAll := ⟨tw_5 106 rfl rfl, tw_p4 5 rfl⟩
theorem mvX7_sheet : MV mX7_sheet := ⟨tw_5 109 rfl rfl, tw_5 110 rfl rfl⟩
theorem mvX7_label : MV mX7_label := ⟨tw_5 113 rfl rfl, tw_5 114 rfl rfl⟩
theorem msX7_isLabel : Cond.static yX7_isLabel ∈ TW := tw_5 117 rfl rfl
theorem mvX7_insert : MV mX7_insert := ⟨tw_5 120 rfl rfl, tw_5 121 rfl rfl⟩
theorem mvX7_cut : MV mX7_cut := ⟨tw_5 129 rfl rfl, tw_5 130 rfl rfl⟩
theorem mvX7_join : MV mX7_join := ⟨tw_5 133 rfl rfl, tw_5 134 rfl rfl⟩
theorem mvX7_turn : MV mX7_turn := ⟨tw_5 137 rfl rfl, tw_5 138 rfl rfl⟩
theorem mvX7_letter : MV mX7_letter := ⟨tw_5 141 rfl rfl, tw_5 142 rfl rfl⟩
theorem mvX7_compare : MV mX7_compare := ⟨tw_5 145 rfl rfl, tw_5 146 rfl rfl⟩
theorem mvX7_times : MV mX7_times := ⟨tw_5 149 rfl rfl, tw_5 150 rfl rfl⟩
theorem mvX7_word : MV mX7_word := ⟨tw_5 153 rfl rfl, tw_5 154 rfl rfl⟩
theorem mvX7_value : MV mX7_value := ⟨tw_5 157 rfl rfl, tw_5 158 rfl rfl⟩
theorem mvX7_drop : MV mX7_drop := ⟨tw_5 163 rfl rfl, tw_5 164 rfl rfl⟩
theorem mlL_9 : Cond.methodLink RL 9 yX6_init ∈ TW := tw_1 18 rfl rfl
theorem mlX6_11 : Cond.methodLink RX6 11 yX1_init ∈ TW := tw_1 26 rfl rfl
theorem mlX1_15 : Cond.methodLink RX1 15 yJ9_max_7cf53 ∈ TW := tw_1 30 rfl rfl
theorem mlX6_34 : Cond.methodLink RX6 34 yX4_init ∈ TW := tw_1 125 rfl rfl
theorem mlX6_74 : Cond.methodLink RX6 74 yX6_reckonAnew ∈ TW := tw_1 194 rfl rfl
theorem mlX6_194 : Cond.methodLink RX6 194 yX0_reckon ∈ TW := tw_1 198 rfl rfl
theorem mlX0_52 : Cond.methodLink RX0 52 yJ9_min_7cf53 ∈ TW := tw_1 202 rfl rfl
theorem mlX0_58 : Cond.methodLink RX0 58 yJ9_max_7cf53 ∈ TW := tw_1 205 rfl rfl
theorem mlX0_62 : Cond.methodLink RX0 62 yX0_takeMeans ∈ TW := tw_1 206 rfl rfl
theorem mlX0_75 : Cond.methodLink RX0 75 yX2_meanOf ∈ TW := tw_1 210 rfl rfl
theorem mlX2_44 : Cond.methodLink RX2 44 yX2_countAt ∈ TW := tw_1 214 rfl rfl
theorem mlX2_34 : Cond.methodLink RX2 34 yX2_slotOf ∈ TW := tw_1 218 rfl rfl
theorem mlX2_47 : Cond.methodLink RX2 47 yX2_errAt ∈ TW := tw_1 222 rfl rfl
theorem mlX0_78 : Cond.methodLink RX0 78 yX0_slopeAt ∈ TW := tw_1 227 rfl rfl
theorem mlX0_82 : Cond.methodLink RX0 82 yX0_meanAt ∈ TW := tw_1 231 rfl rfl
theorem mlX0_98 : Cond.methodLink RX0 98 yX0_hasPoint ∈ TW := tw_1 235 rfl rfl
theorem mlX0_66 : Cond.methodLink RX0 66 yX0_takePlay ∈ TW := tw_2 2 rfl rfl
theorem mlX6_287 : Cond.methodLink RX6 287 yJ9_floorDiv_7cf53 ∈ TW := tw_2 9 rfl rfl
theorem mlX0_69 : Cond.methodLink RX0 69 yX0_poolWanted ∈ TW := tw_2 12 rfl rfl
theorem mlX0_88 : Cond.methodLink RX0 88 yX0_lastIsNotMore ∈ TW := tw_2 16 rfl rfl
theorem mlX0_72 : Cond.methodLink RX0 72 yX0_makeCounts ∈ TW := tw_2 20 rfl rfl
theorem mlX0_92 : Cond.methodLink RX0 92 yX0_poolTotalAt ∈ TW := tw_2 24 rfl rfl
theorem mlX0_95 : Cond.methodLink RX0 95 yX0_poolSizeAt ∈ TW := tw_2 28 rfl rfl
theorem mlX6_276 : Cond.methodLink RX6 276 yX0_writeOut ∈ TW := tw_2 32 rfl rfl
theorem mlX0_108 : Cond.methodLink RX0 108 yX0_offsetAt ∈ TW := tw_2 36 rfl rfl
theorem mlX0_105 : Cond.methodLink RX0 105 yX0_tableAt ∈ TW := tw_2 40 rfl rfl
theorem mlX0_129 : Cond.methodLink RX0 129 yX1_putNumber ∈ TW := tw_2 44 rfl rfl
theorem mlX1_37 : Cond.methodLink RX1 37 yX1_put ∈ TW := tw_2 48 rfl rfl
theorem mlX1_25 : Cond.methodLink RX1 25 yX1_putAt ∈ TW := tw_2 52 rfl rfl
theorem mlX1_29 : Cond.methodLink RX1 29 yX1_hasRoomFor ∈ TW := tw_2 56 rfl rfl
theorem mlX0_133 : Cond.methodLink RX0 133 yX1_put ∈ TW := tw_2 60 rfl rfl
theorem mlX0_114 : Cond.methodLink RX0 114 yJ9_abs_0f7a4 ∈ TW := tw_2 61 rfl rfl
theorem mlL_13 : Cond.methodLink RL 13 yX6_write ∈ TW := tw_2 101 rfl rfl
theorem mlX6_78 : Cond.methodLink RX6 78 yX1_hasRoomFor ∈ TW := tw_2 106 rfl rfl
theorem mlX6_83 : Cond.methodLink RX6 83 yX1_put ∈ TW := tw_2 108 rfl rfl
theorem mlL_18 : Cond.methodLink RL 18 yX6_erase ∈ TW := tw_2 109 rfl rfl
theorem mlL_23 : Cond.methodLink RL 23 yX6_fault ∈ TW := tw_2 113 rfl rfl
theorem mlX6_93 : Cond.methodLink RX6 93 yX2_copyFrom ∈ TW := tw_2 117 rfl rfl
theorem mlX6_97 : Cond.methodLink RX6 97 yX5_readInto ∈ TW := tw_2 124 rfl rfl
theorem mlX5_31 : Cond.methodLink RX5 31 yX5_partIntoTokens ∈ TW := tw_2 128 rfl rfl
theorem mlX5_51 : Cond.methodLink RX5 51 yX1_at ∈ TW := tw_2 132 rfl rfl
theorem mlX5_58 : Cond.methodLink RX5 58 yX1_wordIn ∈ TW := tw_2 139 rfl rfl
theorem mlX1_52 : Cond.methodLink RX1 52 yX1_spells ∈ TW := tw_2 144 rfl rfl
theorem mlX1_62 : Cond.methodLink RX1 62 yJ0_length_8abf5 ∈ TW := tw_2 148 rfl rfl
theorem mlJ0_335 : Cond.methodLink RJ0 335 yJ0_coder_7d493 ∈ TW := tw_2 152 rfl rfl
theorem mlX1_33 : Cond.methodLink RX1 33 yX1_at ∈ TW := tw_2 158 rfl rfl
theorem mlX1_68 : Cond.methodLink RX1 68 yJ0_charAt_5068e ∈ TW := tw_2 159 rfl rfl
theorem mlJ0_492 : Cond.methodLink RJ0 492 yJ0_isLatin1_aae02 ∈ TW := tw_2 163 rfl rfl
theorem mlJ0_495 : Cond.methodLink RJ0 495 yJ1_charAt_3b067 ∈ TW := tw_2 167 rfl rfl
theorem mlJ1_9 : Cond.methodLink RJ1 9 yJ0_checkIndex_df160 ∈ TW := tw_2 170 rfl rfl
theorem mlJ0_1059 : Cond.methodLink RJ0 1059 yJ3_checkIndex_8e157 ∈ TW := tw_2 175 rfl rfl
theorem mlJ0_498 : Cond.methodLink RJ0 498 yJ2_charAt_3b067 ∈ TW := tw_2 178 rfl rfl
theorem mlJ2_67 : Cond.methodLink RJ2 67 yJ2_checkIndex_2214a ∈ TW := tw_2 181 rfl rfl
theorem mlJ2_48 : Cond.methodLink RJ2 48 yJ2_length_9d52b ∈ TW := tw_2 184 rfl rfl
theorem mlJ2_414 : Cond.methodLink RJ2 414 yJ0_checkIndex_df160 ∈ TW := tw_2 187 rfl rfl
theorem mlJ2_71 : Cond.methodLink RJ2 71 yJ2_getChar_3b067 ∈ TW := tw_2 188 rfl rfl
theorem mlX5_62 : Cond.methodLink RX5 62 yX5_addToken ∈ TW := tw_2 201 rfl rfl
theorem mlX5_69 : Cond.methodLink RX5 69 yX1_numberIn ∈ TW := tw_2 208 rfl rfl
theorem mlX5_35 : Cond.methodLink RX5 35 yX5_readClause ∈ TW := tw_2 213 rfl rfl
theorem mlX5_43 : Cond.methodLink RX5 43 yX5_goOn ∈ TW := tw_2 217 rfl rfl
theorem mlX5_73 : Cond.methodLink RX5 73 yX5_readRow ∈ TW := tw_2 221 rfl rfl
theorem mlX5_95 : Cond.methodLink RX5 95 yX5_readErr ∈ TW := tw_2 225 rfl rfl
theorem mlX5_39 : Cond.methodLink RX5 39 yX5_isSign ∈ TW := tw_2 229 rfl rfl
theorem mlX5_83 : Cond.methodLink RX5 83 yX5_readNumber ∈ TW := tw_2 233 rfl rfl
theorem mlX5_102 : Cond.methodLink RX5 102 yX2_add ∈ TW := tw_2 237 rfl rfl
theorem mlX5_77 : Cond.methodLink RX5 77 yX5_readAxis ∈ TW := tw_3 1 rfl rfl
theorem mlX5_86 : Cond.methodLink RX5 86 yX2_begin ∈ TW := tw_3 5 rfl rfl
theorem mlX2_25 : Cond.methodLink RX2 25 yJ9_min_7cf53 ∈ TW := tw_3 9 rfl rfl
theorem mlX2_31 : Cond.methodLink RX2 31 yJ9_max_7cf53 ∈ TW := tw_3 10 rfl rfl
theorem mlX5_80 : Cond.methodLink RX5 80 yX5_readOne ∈ TW := tw_3 11 rfl rfl
theorem mlL_27 : Cond.methodLink RL 27 yX6_axis ∈ TW := tw_3 17 rfl rfl
theorem mlX6_102 : Cond.methodLink RX6 102 yX0_countAt ∈ TW := tw_3 22 rfl rfl
theorem mlX0_117 : Cond.methodLink RX0 117 yX0_hasPlace ∈ TW := tw_3 26 rfl rfl
theorem mlX0_120 : Cond.methodLink RX0 120 yJ9_floorDiv_7cf53 ∈ TW := tw_3 30 rfl rfl
theorem mlX6_106 : Cond.methodLink RX6 106 yX3_rest ∈ TW := tw_3 31 rfl rfl
theorem mlX6_109 : Cond.methodLink RX6 109 yX4_forgetAll ∈ TW := tw_3 35 rfl rfl
theorem mlL_31 : Cond.methodLink RL 31 yX6_run ∈ TW := tw_3 39 rfl rfl
theorem mlX6_115 : Cond.methodLink RX6 115 yX6_refusalOfRun ∈ TW := tw_3 43 rfl rfl
theorem mlX6_126 : Cond.methodLink RX6 126 yX2_hasPoint ∈ TW := tw_3 47 rfl rfl
theorem mlX6_130 : Cond.methodLink RX6 130 yX6_isWay ∈ TW := tw_3 52 rfl rfl
theorem mlX6_119 : Cond.methodLink RX6 119 yX4_remember ∈ TW := tw_3 53 rfl rfl
theorem mlX4_25 : Cond.methodLink RX4 25 yX3_copyFrom ∈ TW := tw_3 57 rfl rfl
theorem mlX3_39 : Cond.methodLink RX3 39 yX2_copyFrom ∈ TW := tw_3 61 rfl rfl
theorem mlX4_29 : Cond.methodLink RX4 29 yJ9_min_7cf53 ∈ TW := tw_3 62 rfl rfl
theorem mlX6_123 : Cond.methodLink RX6 123 yX2_add ∈ TW := tw_3 63 rfl rfl
theorem mlL_36 : Cond.methodLink RL 36 yX6_clear ∈ TW := tw_3 64 rfl rfl
theorem mlX6_133 : Cond.methodLink RX6 133 yX2_countAt ∈ TW := tw_3 68 rfl rfl
theorem mlX6_136 : Cond.methodLink RX6 136 yX2_forget ∈ TW := tw_3 69 rfl rfl
theorem mlL_41 : Cond.methodLink RL 41 yX6_undo ∈ TW := tw_3 73 rfl rfl
theorem mlX6_142 : Cond.methodLink RX6 142 yX4_recallInto ∈ TW := tw_3 77 rfl rfl
theorem mlL_45 : Cond.methodLink RL 45 yX6_keep ∈ TW := tw_3 81 rfl rfl
theorem mlX6_145 : Cond.methodLink RX6 145 yX3_copyFrom ∈ TW := tw_3 85 rfl rfl
theorem mlL_49 : Cond.methodLink RL 49 yX6_back ∈ TW := tw_3 86 rfl rfl
theorem mlL_53 : Cond.methodLink RL 53 yX6_runAt ∈ TW := tw_3 90 rfl rfl
theorem mlX6_150 : Cond.methodLink RX6 150 yX2_errAt ∈ TW := tw_3 94 rfl rfl
theorem mlL_57 : Cond.methodLink RL 57 yX6_point ∈ TW := tw_3 95 rfl rfl
theorem mlX6_153 : Cond.methodLink RX6 153 yX0_hasPoint ∈ TW := tw_3 99 rfl rfl
theorem mlX6_154 : Cond.methodLink RX6 154 yX6_isPart ∈ TW := tw_3 100 rfl rfl
theorem mlX6_157 : Cond.methodLink RX6 157 yX0_meanAt ∈ TW := tw_3 103 rfl rfl
theorem mlX6_160 : Cond.methodLink RX6 160 yX6_partOf ∈ TW := tw_3 104 rfl rfl
theorem mlX6_279 : Cond.methodLink RX6 279 yJ9_abs_0f7a4 ∈ TW := tw_3 107 rfl rfl
theorem mlX6_284 : Cond.methodLink RX6 284 yX6_greatestDivisor ∈ TW := tw_3 108 rfl rfl
theorem mlX6_163 : Cond.methodLink RX6 163 yX0_slopeAt ∈ TW := tw_3 111 rfl rfl
theorem mlX6_166 : Cond.methodLink RX6 166 yX0_wantedAt ∈ TW := tw_3 112 rfl rfl
theorem mlX6_169 : Cond.methodLink RX6 169 yX0_poolTotalAt ∈ TW := tw_3 116 rfl rfl
theorem mlX6_172 : Cond.methodLink RX6 172 yX0_poolSizeAt ∈ TW := tw_3 117 rfl rfl
theorem mlX6_175 : Cond.methodLink RX6 175 yX0_missAt ∈ TW := tw_3 118 rfl rfl
theorem mlL_61 : Cond.methodLink RL 61 yX6_table ∈ TW := tw_3 122 rfl rfl
theorem mlX6_178 : Cond.methodLink RX6 178 yX0_tableAt ∈ TW := tw_3 126 rfl rfl
theorem mlX6_181 : Cond.methodLink RX6 181 yX0_poolFirstAt ∈ TW := tw_3 127 rfl rfl
theorem mlL_65 : Cond.methodLink RL 65 yX6_play ∈ TW := tw_3 131 rfl rfl
theorem mlL_69 : Cond.methodLink RL 69 yX6_worst ∈ TW := tw_3 135 rfl rfl
theorem mlX6_190 : Cond.methodLink RX6 190 yX0_worstSlot ∈ TW := tw_3 139 rfl rfl
theorem mlX0_111 : Cond.methodLink RX0 111 yX0_missAt ∈ TW := tw_3 143 rfl rfl
theorem mlL_73 : Cond.methodLink RL 73 yX6_merged ∈ TW := tw_3 144 rfl rfl
theorem mlL_77 : Cond.methodLink RL 77 yX6_move ∈ TW := tw_3 148 rfl rfl
theorem mlX6_197 : Cond.methodLink RX6 197 yX0_hasPlace ∈ TW := tw_3 152 rfl rfl
theorem mlX6_203 : Cond.methodLink RX6 203 yX3_go ∈ TW := tw_3 153 rfl rfl
theorem mlX3_33 : Cond.methodLink RX3 33 yJ9_abs_0f7a4 ∈ TW := tw_3 157 rfl rfl
theorem mlL_81 : Cond.methodLink RL 81 yX6_countOf ∈ TW := tw_3 158 rfl rfl
theorem mlL_85 : Cond.methodLink RL 85 yX6_placeOf ∈ TW := tw_3 162 rfl rfl
theorem mlX6_210 : Cond.methodLink RX6 210 yX0_placeAt ∈ TW := tw_3 166 rfl rfl
theorem mlL_89 : Cond.methodLink RL 89 yX6_told ∈ TW := tw_3 171 rfl rfl
theorem mlX6_226 : Cond.methodLink RX6 226 yX2_countOfAll ∈ TW := tw_3 175 rfl rfl
theorem mlX6_229 : Cond.methodLink RX6 229 yX6_lettersOfLabels ∈ TW := tw_3 179 rfl rfl
theorem mlL_93 : Cond.methodLink RL 93 yX6_sheet ∈ TW := tw_3 183 rfl rfl
theorem mlX6_232 : Cond.methodLink RX6 232 yX1_at ∈ TW := tw_3 187 rfl rfl
theorem mlL_97 : Cond.methodLink RL 97 yX6_label ∈ TW := tw_3 189 rfl rfl
theorem mlX6_236 : Cond.methodLink RX6 236 yX6_isLabel ∈ TW := tw_3 193 rfl rfl
theorem mlL_101 : Cond.methodLink RL 101 yX6_insert ∈ TW := tw_3 196 rfl rfl
theorem mlX6_242 : Cond.methodLink RX6 242 yX1_putAt ∈ TW := tw_3 203 rfl rfl
theorem mlL_105 : Cond.methodLink RL 105 yX6_cut ∈ TW := tw_3 204 rfl rfl
theorem mlX6_246 : Cond.methodLink RX6 246 yX6_refusalOfLabel ∈ TW := tw_3 208 rfl rfl
theorem mlX6_249 : Cond.methodLink RX6 249 yX1_remove ∈ TW := tw_3 212 rfl rfl
theorem mlL_109 : Cond.methodLink RL 109 yX6_join ∈ TW := tw_3 216 rfl rfl
theorem mlX6_252 : Cond.methodLink RX6 252 yX6_refusalOfTwo ∈ TW := tw_3 220 rfl rfl
theorem mlX6_255 : Cond.methodLink RX6 255 yX1_putAll ∈ TW := tw_3 224 rfl rfl
theorem mlL_113 : Cond.methodLink RL 113 yX6_turn ∈ TW := tw_3 228 rfl rfl
theorem mlX6_259 : Cond.methodLink RX6 259 yX1_reverse ∈ TW := tw_3 232 rfl rfl
theorem mlL_117 : Cond.methodLink RL 117 yX6_letter ∈ TW := tw_3 236 rfl rfl
theorem mlL_121 : Cond.methodLink RL 121 yX6_compare ∈ TW := tw_4 0 rfl rfl
theorem mlX6_262 : Cond.methodLink RX6 262 yX1_orderAgainst ∈ TW := tw_4 4 rfl rfl
theorem mlX1_41 : Cond.methodLink RX1 41 yJ6_compare_7cf53 ∈ TW := tw_4 8 rfl rfl
theorem mlL_125 : Cond.methodLink RL 125 yX6_times ∈ TW := tw_4 11 rfl rfl
theorem mlX6_266 : Cond.methodLink RX6 266 yX1_timesOf ∈ TW := tw_4 15 rfl rfl
theorem mlX1_46 : Cond.methodLink RX1 46 yX1_hasAt ∈ TW := tw_4 19 rfl rfl
theorem mlL_129 : Cond.methodLink RL 129 yX6_word ∈ TW := tw_4 23 rfl rfl
theorem mlX6_269 : Cond.methodLink RX6 269 yX1_wordIn ∈ TW := tw_4 27 rfl rfl
theorem mlL_133 : Cond.methodLink RL 133 yX6_value ∈ TW := tw_4 28 rfl rfl
theorem mlX6_272 : Cond.methodLink RX6 272 yX1_numberIn ∈ TW := tw_4 32 rfl rfl
theorem mlL_137 : Cond.methodLink RL 137 yX6_drop ∈ TW := tw_4 34 rfl rfl
theorem mlL_12 : Cond.methodLink RL 12 yX7_init ∈ TW := tw_4 40 rfl rfl
theorem mlX7_51 : Cond.methodLink RX7 51 yX7_rests ∈ TW := tw_4 44 rfl rfl
theorem mlX7_54 : Cond.methodLink RX7 54 yX7_layTable ∈ TW := tw_4 48 rfl rfl
theorem mlX7_175 : Cond.methodLink RX7 175 yX7_wanted ∈ TW := tw_4 52 rfl rfl
theorem mlX7_171 : Cond.methodLink RX7 171 yX7_mean ∈ TW := tw_4 56 rfl rfl
theorem mlX7_179 : Cond.methodLink RX7 179 yX7_nearest ∈ TW := tw_4 60 rfl rfl
theorem mlX7_182 : Cond.methodLink RX7 182 yX7_sixtyPlays ∈ TW := tw_4 63 rfl rfl
theorem mlX7_58 : Cond.methodLink RX7 58 yX7_countAt ∈ TW := tw_4 67 rfl rfl
theorem mlL_17 : Cond.methodLink RL 17 yX7_write ∈ TW := tw_4 141 rfl rfl
theorem mlX7_65 : Cond.methodLink RX7 65 yX7_in ∈ TW := tw_4 146 rfl rfl
theorem mlL_22 : Cond.methodLink RL 22 yX7_erase ∈ TW := tw_4 151 rfl rfl
theorem mlL_26 : Cond.methodLink RL 26 yX7_fault ∈ TW := tw_4 155 rfl rfl
theorem mlX7_151 : Cond.methodLink RX7 151 yX7_reads ∈ TW := tw_4 159 rfl rfl
theorem mlX7_104 : Cond.methodLink RX7 104 yX7_nextToken ∈ TW := tw_4 163 rfl rfl
theorem mlX7_94 : Cond.methodLink RX7 94 yX7_isSmall ∈ TW := tw_4 167 rfl rfl
theorem mlX7_98 : Cond.methodLink RX7 98 yX7_isDigit ∈ TW := tw_4 172 rfl rfl
theorem mlX7_148 : Cond.methodLink RX7 148 yX7_takesClause ∈ TW := tw_4 177 rfl rfl
theorem mlX7_129 : Cond.methodLink RX7 129 yX7_wordHere ∈ TW := tw_4 181 rfl rfl
theorem mlX7_136 : Cond.methodLink RX7 136 yX7_takesAxis ∈ TW := tw_4 185 rfl rfl
theorem mlX7_107 : Cond.methodLink RX7 107 yX7_takesNumber ∈ TW := tw_4 189 rfl rfl
theorem mlX7_118 : Cond.methodLink RX7 118 yX7_noRuns ∈ TW := tw_4 193 rfl rfl
theorem mlX7_139 : Cond.methodLink RX7 139 yX7_takesAt ∈ TW := tw_4 197 rfl rfl
theorem mlX7_133 : Cond.methodLink RX7 133 yX7_isWay ∈ TW := tw_4 201 rfl rfl
theorem mlX7_121 : Cond.methodLink RX7 121 yX7_takesErr ∈ TW := tw_4 204 rfl rfl
theorem mlX7_125 : Cond.methodLink RX7 125 yX7_adds ∈ TW := tw_4 208 rfl rfl
theorem mlX7_142 : Cond.methodLink RX7 142 yX7_takesRuns ∈ TW := tw_4 212 rfl rfl
theorem mlL_30 : Cond.methodLink RL 30 yX7_axis ∈ TW := tw_4 216 rfl rfl
theorem mlL_35 : Cond.methodLink RL 35 yX7_run ∈ TW := tw_4 221 rfl rfl
theorem mlX7_160 : Cond.methodLink RX7 160 yX7_isPoint ∈ TW := tw_4 225 rfl rfl
theorem mlX7_164 : Cond.methodLink RX7 164 yX7_isErr ∈ TW := tw_4 230 rfl rfl
theorem mlX7_167 : Cond.methodLink RX7 167 yX7_minds ∈ TW := tw_4 235 rfl rfl
theorem mlX7_156 : Cond.methodLink RX7 156 yX7_copy ∈ TW := tw_4 239 rfl rfl
theorem mlL_40 : Cond.methodLink RL 40 yX7_clear ∈ TW := tw_5 3 rfl rfl
theorem mlL_44 : Cond.methodLink RL 44 yX7_undo ∈ TW := tw_5 7 rfl rfl
theorem mlL_48 : Cond.methodLink RL 48 yX7_keep ∈ TW := tw_5 11 rfl rfl
theorem mlL_52 : Cond.methodLink RL 52 yX7_back ∈ TW := tw_5 15 rfl rfl
theorem mlL_56 : Cond.methodLink RL 56 yX7_runAt ∈ TW := tw_5 19 rfl rfl
theorem mlL_60 : Cond.methodLink RL 60 yX7_point ∈ TW := tw_5 24 rfl rfl
theorem mlX7_190 : Cond.methodLink RX7 190 yX7_part ∈ TW := tw_5 29 rfl rfl
theorem mlX7_193 : Cond.methodLink RX7 193 yX7_missed ∈ TW := tw_5 33 rfl rfl
theorem mlL_64 : Cond.methodLink RL 64 yX7_table ∈ TW := tw_5 37 rfl rfl
theorem mlX7_198 : Cond.methodLink RX7 198 yX7_firstOf ∈ TW := tw_5 42 rfl rfl
theorem mlL_68 : Cond.methodLink RL 68 yX7_play ∈ TW := tw_5 46 rfl rfl
theorem mlL_72 : Cond.methodLink RL 72 yX7_worst ∈ TW := tw_5 50 rfl rfl
theorem mlL_76 : Cond.methodLink RL 76 yX7_merged ∈ TW := tw_5 54 rfl rfl
theorem mlL_80 : Cond.methodLink RL 80 yX7_move ∈ TW := tw_5 58 rfl rfl
theorem mlX7_201 : Cond.methodLink RX7 201 yX7_last ∈ TW := tw_5 62 rfl rfl
theorem mlL_84 : Cond.methodLink RL 84 yX7_countOf ∈ TW := tw_5 66 rfl rfl
theorem mlL_88 : Cond.methodLink RL 88 yX7_placeOf ∈ TW := tw_5 70 rfl rfl
theorem mlL_92 : Cond.methodLink RL 92 yX7_told ∈ TW := tw_5 76 rfl rfl
theorem mlX7_220 : Cond.methodLink RX7 220 yX7_playNow ∈ TW := tw_5 80 rfl rfl
theorem mlX7_223 : Cond.methodLink RX7 223 yX7_runs ∈ TW := tw_5 84 rfl rfl
theorem mlX7_226 : Cond.methodLink RX7 226 yX7_sheetLong ∈ TW := tw_5 88 rfl rfl
theorem mlX7_217 : Cond.methodLink RX7 217 yX7_laySheet ∈ TW := tw_5 92 rfl rfl
theorem mlX7_211 : Cond.methodLink RX7 211 yX7_puts ∈ TW := tw_5 96 rfl rfl
theorem mlX7_214 : Cond.methodLink RX7 214 yX7_putsNumber ∈ TW := tw_5 100 rfl rfl
theorem mlX7_229 : Cond.methodLink RX7 229 yX7_lettersOfAll ∈ TW := tw_5 104 rfl rfl
theorem mlL_96 : Cond.methodLink RL 96 yX7_sheet ∈ TW := tw_5 108 rfl rfl
theorem mlL_100 : Cond.methodLink RL 100 yX7_label ∈ TW := tw_5 112 rfl rfl
theorem mlX7_232 : Cond.methodLink RX7 232 yX7_isLabel ∈ TW := tw_5 116 rfl rfl
theorem mlL_104 : Cond.methodLink RL 104 yX7_insert ∈ TW := tw_5 119 rfl rfl
theorem mlL_108 : Cond.methodLink RL 108 yX7_cut ∈ TW := tw_5 128 rfl rfl
theorem mlL_112 : Cond.methodLink RL 112 yX7_join ∈ TW := tw_5 132 rfl rfl
theorem mlL_116 : Cond.methodLink RL 116 yX7_turn ∈ TW := tw_5 136 rfl rfl
theorem mlL_120 : Cond.methodLink RL 120 yX7_letter ∈ TW := tw_5 140 rfl rfl
theorem mlL_124 : Cond.methodLink RL 124 yX7_compare ∈ TW := tw_5 144 rfl rfl
theorem mlL_128 : Cond.methodLink RL 128 yX7_times ∈ TW := tw_5 148 rfl rfl
theorem mlL_132 : Cond.methodLink RL 132 yX7_word ∈ TW := tw_5 152 rfl rfl
theorem mlL_136 : Cond.methodLink RL 136 yX7_value ∈ TW := tw_5 156 rfl rfl
theorem mlL_140 : Cond.methodLink RL 140 yX7_drop ∈ TW := tw_5 162 rfl rfl
theorem nw_of {a : String} {i : Nat} {y : MethodName} {h : String} (q : Cond.methodLinkNest a i y h ∈ lw_tbl) : Cond.methodLinkNest a i y h ∈ nestW := List.mem_filter.mpr ⟨q, rfl⟩
theorem nlX6_20 : Cond.methodLinkNest RX6 20 yX5_init RX6 ∈ nestW := nw_of (List.mem_append_right _ (show _ ∈ tables_1_1 ++ (tables_1_2 ++ (tables_1_3 ++ (tables_1_4 ++ tables_1_5))) from List.mem_append_left _ (List.mem_of_getElem? (i := 46) rfl)))
theorem nlX6_27 : Cond.methodLinkNest RX6 27 yX3_init RX6 ∈ nestW := nw_of (List.mem_append_right _ (show _ ∈ tables_1_1 ++ (tables_1_2 ++ (tables_1_3 ++ (tables_1_4 ++ tables_1_5))) from List.mem_append_left _ (List.mem_of_getElem? (i := 72) rfl)))
theorem nlX3_9 : Cond.methodLinkNest RX3 9 yX2_init RX6 ∈ nestW := nw_of (List.mem_append_right _ (show _ ∈ tables_1_1 ++ (tables_1_2 ++ (tables_1_3 ++ (tables_1_4 ++ tables_1_5))) from List.mem_append_left _ (List.mem_of_getElem? (i := 78) rfl)))
theorem nlX4_24 : Cond.methodLinkNest RX4 24 yX3_init RX6 ∈ nestW := nw_of (List.mem_append_right _ (show _ ∈ tables_1_1 ++ (tables_1_2 ++ (tables_1_3 ++ (tables_1_4 ++ tables_1_5))) from List.mem_append_left _ (List.mem_of_getElem? (i := 131) rfl)))
theorem nlX6_49 : Cond.methodLinkNest RX6 49 yX0_init RX6 ∈ nestW := nw_of (List.mem_append_right _ (show _ ∈ tables_1_1 ++ (tables_1_2 ++ (tables_1_3 ++ (tables_1_4 ++ tables_1_5))) from List.mem_append_left _ (List.mem_of_getElem? (i := 145) rfl)))
theorem nlX6_56 : Cond.methodLinkNest RX6 56 yX2_init RX6 ∈ nestW := nw_of (List.mem_append_right _ (show _ ∈ tables_1_1 ++ (tables_1_2 ++ (tables_1_3 ++ (tables_1_4 ++ tables_1_5))) from List.mem_append_left _ (List.mem_of_getElem? (i := 192) rfl)))
theorem nlX0_102 : Cond.methodLinkNest RX0 102 yX6_isWay RX6 ∈ nestW := nw_of (List.mem_append_right _ (show _ ∈ tables_1_1 ++ (tables_1_2 ++ (tables_1_3 ++ (tables_1_4 ++ tables_1_5))) from List.mem_append_left _ (List.mem_of_getElem? (i := 239) rfl)))
theorem nlX0_85 : Cond.methodLinkNest RX0 85 yX6_nearestLesser RX6 ∈ nestW := nw_of (List.mem_append_right _ (show _ ∈ tables_1_1 ++ (tables_1_2 ++ (tables_1_3 ++ (tables_1_4 ++ tables_1_5))) from List.mem_append_right _ (List.mem_append_left _ (List.mem_of_getElem? (i := 6) rfl))))
theorem nlX5_55 : Cond.methodLinkNest RX5 55 yX6_isSmallLetter RX6 ∈ nestW := nw_of (List.mem_append_right _ (show _ ∈ tables_1_1 ++ (tables_1_2 ++ (tables_1_3 ++ (tables_1_4 ++ tables_1_5))) from List.mem_append_right _ (List.mem_append_left _ (List.mem_of_getElem? (i := 136) rfl))))
theorem nlX5_66 : Cond.methodLinkNest RX5 66 yX6_isDigit RX6 ∈ nestW := nw_of (List.mem_append_right _ (show _ ∈ tables_1_1 ++ (tables_1_2 ++ (tables_1_3 ++ (tables_1_4 ++ tables_1_5))) from List.mem_append_right _ (List.mem_append_left _ (List.mem_of_getElem? (i := 205) rfl))))
theorem nlX1_72 : Cond.methodLinkNest RX1 72 yX6_isDigit RX6 ∈ nestW := nw_of (List.mem_append_right _ (show _ ∈ tables_1_1 ++ (tables_1_2 ++ (tables_1_3 ++ (tables_1_4 ++ tables_1_5))) from List.mem_append_right _ (List.mem_append_left _ (List.mem_of_getElem? (i := 212) rfl))))
theorem nlX5_99 : Cond.methodLinkNest RX5 99 yX6_isWay RX6 ∈ nestW := nw_of (List.mem_append_right _ (show _ ∈ tables_1_1 ++ (tables_1_2 ++ (tables_1_3 ++ (tables_1_4 ++ tables_1_5))) from List.mem_append_right _ (List.mem_append_right _ (List.mem_append_left _ (List.mem_of_getElem? (i := 15) rfl)))))
theorem w_acI : Cond.arrayClass .int ∈ TW := tw_1 43 rfl rfl
theorem w_acZ : Cond.arrayClass .boolean ∈ TW := tw_1 190 rfl rfl
theorem w_acN : Cond.native arraycopyName ∈ TW := tw_2 123 rfl rfl
theorem w_acS : Cond.static arraycopyName ∈ TW := tw_2 122 rfl rfl
theorem w_inS : Cond.initialized "java/lang/System" ∈ TW := tw_1 10 rfl rfl
theorem w_oiI : Cond.instanceMethod objectInit ∈ TW := tw_1 22 rfl rfl
theorem w_oiC : Cond.code objectInit ⟨#[0xb1]⟩ 1 none ∈ TW := tw_1 23 rfl rfl
theorem mlX6_1 : Cond.methodLink RX6 1 objectInit ∈ TW := tw_1 21 rfl rfl
theorem mlX1_3 : Cond.methodLink RX1 3 objectInit ∈ TW := tw_1 29 rfl rfl
theorem mlX5_3 : Cond.methodLink RX5 3 objectInit ∈ TW := tw_1 49 rfl rfl
theorem mlX3_1 : Cond.methodLink RX3 1 objectInit ∈ TW := tw_1 75 rfl rfl
theorem mlX2_3 : Cond.methodLink RX2 3 objectInit ∈ TW := tw_1 81 rfl rfl
theorem mlX4_3 : Cond.methodLink RX4 3 objectInit ∈ TW := tw_1 128 rfl rfl
theorem mlX0_3 : Cond.methodLink RX0 3 objectInit ∈ TW := tw_1 148 rfl rfl
theorem mlX2_38 : Cond.methodLink RX2 38 arraycopyName ∈ TW := tw_2 121 rfl rfl
theorem mlX7_1 : Cond.methodLink RX7 1 objectInit ∈ TW := tw_4 43 rfl rfl
theorem w_sV : Cond.fieldLink RJ0 9 "java/lang/String" "value" "[B" ∈ TW := tw_5 166 rfl rfl
theorem w_sC : Cond.fieldLink RJ0 15 "java/lang/String" "coder" "B" ∈ TW := tw_5 167 rfl rfl
theorem w_sZ : Cond.fieldLink RJ0 38 "java/lang/String" "COMPACT_STRINGS" "Z" ∈ TW := tw_2 156 rfl rfl
theorem w_sF : Cond.fieldLink RJ0 1053 "jdk/internal/util/Preconditions" "SIOOBE_FORMATTER" "Ljava/util/function/BiFunction;" ∈ TW := tw_2 173 rfl rfl
end
section
/-! heap, calls, returns -/
theorem rho_lt {x : CM} {k : Nat} (h : k < 1000) : rho x k = CM.base x + k := if_pos h
theorem wl_at {x : CM} {N : Nat} {σ : PH} {k : Nat} (h : k < N) : (wl x N σ)[k]? = some (CM.base x + k, cE (rho x) (CM.cy x) (σ k)) := by
  unfold wl
  rw [List.getElem?_map, List.getElem?_range h]
  rfl
theorem wl_set {x : CM} {N : Nat} {σ : PH} {q : Nat} {e : PC} : (wl x N σ).set q (CM.base x + q, cE (rho x) (CM.cy x) e) = wl x N (up σ q e) := by
  apply List.ext_getElem?
  intro k
  by_cases hk : k < N
  · by_cases hq : q = k
    · subst hq
      rw [wl_at hk, List.getElem?_set_self (by unfold wl; simpa using hk), up_s]
    · rw [List.getElem?_set_ne hq, wl_at hk, wl_at hk, up_n (Ne.symm hq)]
  · have h1 : (wl x N (up σ q e))[k]? = none := List.getElem?_eq_none (by unfold wl; simp; omega)
    rw [h1]
    exact List.getElem?_eq_none (by unfold wl; simp; omega)
theorem wl_D {x : CM} {N : Nat} {σ : PH} : va_D (AA x) (wl x N σ) := by
  have key : ∀ (i : Nat) (p : Nat × va_E), (wl x N σ)[i]? = some p → p.1 = CM.base x + i := by
    intro i p h
    have hi : i < N := by
      have := (List.getElem?_eq_some_iff.mp h).1
      unfold wl at this
      simpa using this
    rw [wl_at hi] at h
    cases h
    rfl
  refine ⟨fun i j p q hi hj e => ?_, fun k q hk => ?_⟩
  · have h1 := key i p hi
    have h2 := key j q hj
    omega
  · have := key k q hk
    show CM.base x ≤ q.1
    omega
theorem Wd.lt_o {x : CM} {N : Nat} {σ : PH} {H : Heap} (h : Wd x N σ H) {q ci : Nat} {fs : List Value} {r : vw_C} (he : σ q = pcO ci fs) (hc : vwCl[ci]? = some r) : q < N := by
  rcases Nat.lt_or_ge q N with h1 | h1
  · exact h1
  · have := h.2.2.2 q h1
    rw [he] at this
    cases this
    cases hc
theorem Wd.lt_a {x : CM} {N : Nat} {σ : PH} {H : Heap} (h : Wd x N σ H) {q : Nat} {a : Nat × Nat × ((Int → Int) ⊕ (Int → Option Nat))} (he : σ q = .inl a) : q < N := by
  rcases Nat.lt_or_ge q N with h1 | h1
  · exact h1
  · have := h.2.2.2 q h1
    rw [he] at this
    cases this
theorem W.bySize {p : Program} {l : Launch} {e : Env} {R : Room} {s : State} {m : MethodId} {args : Array Value} {below : List Frame} {meth : Method} {c : Code} {H : Heap} {locs : List Loc} {cells slots : Nat} {Z : State → Prop} {g : JFrame}
    (h : H.size ≤ s.heap.size + cells → W p l e R s m args below meth c H locs cells slots Z g) : W p l e R s m args below meth c H locs cells slots Z g :=
  fun T hT X => h (hT ▸ X.heapSize) T hT X
/-- a world behind a store: as large as it was -/
theorem Wd.stored {x : CM} {N q : Nat} {σ : PH} {H H1 : Heap} {e : PC} (h : Wd x N σ H) (hq : q < N) (hP : va_P (CM.dC x, CM.dI x) vwCl (wl x N (up σ q e)) H1) (hz : H1.size ≤ CM.base x + N) : Wd x N (up σ q e) H1 := by
  refine ⟨h.1, ?_, hP, fun k hk => ?_⟩
  · have h1 := (hP (N - 1) _ (wl_at (by omega))).lt
    have h2 : CM.base x + (N - 1) < H1.size := h1
    omega
  · rw [up_n (by omega)]
    exact h.2.2.2 k hk
section
variable {x : CX} {d : Nat} {M : MI} {Q : PQ} {b : Nat × Nat} {pc : Nat} {L : List (Option Value)} {st : List Value} {N : Nat} {σ : PH}
theorem P.get {i ci k q : Nat} {fs : List Value} {v : Value} (hf : FL (MI.own M) i ci k) (hd : decode (MI.cc M) pc = .ok (.getfield i, 3)) (he : σ q = pcO ci fs) (hv : fs[k]? = some v) (kk : P x d M Q b (pc + 3) L (v :: st) N σ) : P x d M Q b pc L (vR q :: st) N σ := by
  intro ok H locs cells slots ls hW hS hL h1 h2
  obtain ⟨C, T, n, hc, hk, hw⟩ := hf
  have hq := hW.lt_o he hc
  have hq2 : q < 1000 := Nat.lt_of_lt_of_le hq hW.1
  have hen := ok.2.2.2.2.2.2.2.2.1
  show W _ _ _ _ _ _ _ _ _ _ H locs cells slots _ (F0 _ pc ls (.ref (rho (CX.cm x) q) :: _))
  rw [rho_lt hq2]
  have hat := wl_at (x := CX.cm x) (σ := σ) hq
  rw [he] at hat
  exact va_get (C := C) (T := T) (N := n) (ci := ci) ok.1 ok.2.1 ok.2.2.2.2.2.2.2.1 (cl_ok ci _ hc).1 ok.2.2.2.2.2.1 hen.1 hW.2.2.1 q hat hc k hk (ok.2.2.2.2.2.2.2.1 _ hw) (fun _ h => h) (v := cvx (CX.cm x) v) (by rw [List.getElem?_map, hv]; rfl) hd (kk ok H locs cells slots ls hW hS hL h1 h2)
theorem P.put {i ci k q : Nat} {fs fs' : List Value} {v : Value} {C : String} {T : u_T} {n : Nat} {ty : FieldType} (hf : FL (MI.own M) i ci k) (hc : vwCl[ci]? = some (C, T, n)) (hd : decode (MI.cc M) pc = .ok (.putfield i, 3)) (he : σ q = pcO ci fs) (hl : k < fs.length) (hfin : (T k).2.2.2 = false)
    (hty : parseFieldDescriptor (T k).2.2.1 = some ty) (hn : narrow ty v = v) (hfit : fits ty (cvx (CX.cm x) v) = true) (hs : fs.set k v = fs') (kk : P x d M Q b (pc + 3) L st N (up σ q (pcO ci fs'))) : P x d M Q b pc L (v :: vR q :: st) N σ := by
  intro ok H locs cells slots ls hW hS hL h1 h2
  obtain ⟨C', T', n', hc', hk, hw⟩ := hf
  cases Option.some.inj (hc'.symm.trans hc)
  have hq := hW.lt_o he hc
  have hq2 : q < 1000 := Nat.lt_of_lt_of_le hq hW.1
  have hen := ok.2.2.2.2.2.2.2.2.1
  obtain ⟨hin, ⟨ty0, hty0⟩, hnm, -⟩ := cl_ok ci _ hc
  show W _ _ _ _ _ _ _ _ _ _ H locs cells slots _ (F0 _ pc ls (cvx (CX.cm x) v :: .ref (rho (CX.cm x) q) :: _))
  rw [rho_lt hq2]
  have hat := wl_at (x := CX.cm x) (σ := σ) hq
  rw [he] at hat
  refine va_put (C := C) (T := T) (N := n) (ci := ci) ok.1 ok.2.1 ok.2.2.2.2.2.2.2.1 hin ty0 hty0 hnm ok.2.2.2.2.2.1 hen.1 hW.2.2.1 wl_D hS q hat hc k hk (ok.2.2.2.2.2.2.2.1 _ hw) (fun _ h => h) hfin hty (by cases v <;> first | exact hn | (cases ty <;> rfl)) hfit (by simpa using hl) hd (fun H1 locs1 hP1 _ hS1 => W.bySize fun hz => ?_)
  have e1 : (fs.map (cvv (rho (CX.cm x)))).set k (cvx (CX.cm x) v) = (fs'.map (cvv (rho (CX.cm x)))) := by rw [← hs, List.map_set]
  rw [e1] at hP1
  have hP2 : va_P (CM.dC (CX.cm x), CM.dI (CX.cm x)) vwCl ((wl (CX.cm x) N σ).set q (CM.base (CX.cm x) + q, cE (rho (CX.cm x)) (CM.cy (CX.cm x)) (pcO ci fs'))) H1 := hP1
  rw [wl_set] at hP2
  exact kk ok H1 locs1 cells slots ls (hW.stored hq hP2 (by omega)) hS1 hL h1 h2
theorem P.putF {i ci k q : Nat} {fs fs' : List Value} {v : Value} {C : String} {T : u_T} {n : Nat} {ty : FieldType} (hf : FL (MI.own M) i ci k) (hc : vwCl[ci]? = some (C, T, n)) (hd : decode (MI.cc M) pc = .ok (.putfield i, 3)) (he : σ q = pcO ci fs) (hl : k < fs.length) (hfin : (T k).2.2.2 = true) (hi : (MI.y M).name = "<init>") (hdl : (T k).1 = MI.own M)
    (hty : parseFieldDescriptor (T k).2.2.1 = some ty) (hn : narrow ty v = v) (hfit : fits ty (cvx (CX.cm x) v) = true) (hs : fs.set k v = fs') (kk : P x d M Q b (pc + 3) L st N (up σ q (pcO ci fs'))) : P x d M Q b pc L (v :: vR q :: st) N σ := by
  intro ok H locs cells slots ls hW hS hL h1 h2
  obtain ⟨C', T', n', hc', hk, hw⟩ := hf
  cases Option.some.inj (hc'.symm.trans hc)
  have hq := hW.lt_o he hc
  have hq2 : q < 1000 := Nat.lt_of_lt_of_le hq hW.1
  have hen := ok.2.2.2.2.2.2.2.2.1
  obtain ⟨hin, ⟨ty0, hty0⟩, hnm, -⟩ := cl_ok ci _ hc
  show W _ _ _ _ _ _ _ _ _ _ H locs cells slots _ (F0 _ pc ls (cvx (CX.cm x) v :: .ref (rho (CX.cm x) q) :: _))
  rw [rho_lt hq2]
  have hat := wl_at (x := CX.cm x) (σ := σ) hq
  rw [he] at hat
  refine va_putF (C := C) (T := T) (N := n) (ci := ci) ok.1 ok.2.1 ok.2.2.2.2.2.2.2.1 hin ty0 hty0 hnm ok.2.2.2.2.2.1 hen.1 hW.2.2.1 wl_D hS q hat hc k hk (ok.2.2.2.2.2.2.2.1 _ hw) (fun _ h => h) hfin (ok.2.2.2.2.2.2.1.trans hi) hdl hty (by cases v <;> first | exact hn | (cases ty <;> rfl)) hfit (by simpa using hl) hd (fun H1 locs1 hP1 _ hS1 => W.bySize fun hz => ?_)
  have e1 : (fs.map (cvv (rho (CX.cm x)))).set k (cvx (CX.cm x) v) = (fs'.map (cvv (rho (CX.cm x)))) := by rw [← hs, List.map_set]
  rw [e1] at hP1
  have hP2 : va_P (CM.dC (CX.cm x), CM.dI (CX.cm x)) vwCl ((wl (CX.cm x) N σ).set q (CM.base (CX.cm x) + q, cE (rho (CX.cm x)) (CM.cy (CX.cm x)) (pcO ci fs'))) H1 := hP1
  rw [wl_set] at hP2
  exact kk ok H1 locs1 cells slots ls (hW.stored hq hP2 (by omega)) hS1 hL h1 h2
theorem P.iald {q n : Nat} {f : Int → Int} {z : Int} (hd : decode (MI.cc M) pc = .ok (.iaload, 1)) (he : σ q = pcI 0 n f) (h0 : 0 ≤ z) (hz : z < n) (hn : n < 2147483648) (kk : P x d M Q b (pc + 1) L (vI (f z) :: st) N σ) : P x d M Q b pc L (vI z :: vR q :: st) N σ := by
  intro ok H locs cells slots ls hW hS hL h1 h2
  have hq := hW.lt_a he
  have hR : inR z := ⟨by omega, by omega⟩
  show W _ _ _ _ _ _ _ _ _ _ H locs cells slots _ (F0 _ pc ls (.int (iI z) :: .ref (rho (CX.cm x) q) :: _))
  rw [rho_lt (Nat.lt_of_lt_of_le hq hW.1)]
  have hat := wl_at (x := CX.cm x) (σ := σ) hq
  rw [he] at hat
  refine va_iald ok.1 ok.2.1 ok.2.2.2.2.2.2.2.2.1.1 hW.2.2.1 q 0 hat rfl (iI_in h0 hz hR) hd ?_
  rw [iI_clamp hR, Int.toNat_of_nonneg h0]
  exact kk ok H locs cells slots ls hW hS hL h1 h2
theorem P.zald {q n : Nat} {f : Int → Int} {z : Int} (hd : decode (MI.cc M) pc = .ok (.baload, 1)) (he : σ q = pcI 1 n f) (h0 : 0 ≤ z) (hz : z < n) (hn : n < 2147483648) (kk : P x d M Q b (pc + 1) L (vI (f z) :: st) N σ) : P x d M Q b pc L (vI z :: vR q :: st) N σ := by
  intro ok H locs cells slots ls hW hS hL h1 h2
  have hq := hW.lt_a he
  have hR : inR z := ⟨by omega, by omega⟩
  show W _ _ _ _ _ _ _ _ _ _ H locs cells slots _ (F0 _ pc ls (.int (iI z) :: .ref (rho (CX.cm x) q) :: _))
  rw [rho_lt (Nat.lt_of_lt_of_le hq hW.1)]
  have hat := wl_at (x := CX.cm x) (σ := σ) hq
  rw [he] at hat
  refine va_zald ok.1 ok.2.1 ok.2.2.2.2.2.2.2.2.1.1 hW.2.2.1 q 1 hat rfl (iI_in h0 hz hR) hd ?_
  rw [iI_clamp hR, Int.toNat_of_nonneg h0]
  exact kk ok H locs cells slots ls hW hS hL h1 h2
theorem P.aald {q n t : Nat} {g : Int → Option Nat} {z : Int} {a : Nat} (hd : decode (MI.cc M) pc = .ok (.aaload, 1)) (he : σ q = pcR t n g) (ht : t = 2 ∨ t = 3) (h0 : 0 ≤ z) (hz : z < n) (hn : n < 2147483648) (hg : g z = some a) (kk : P x d M Q b (pc + 1) L (vR a :: st) N σ) : P x d M Q b pc L (vI z :: vR q :: st) N σ := by
  intro ok H locs cells slots ls hW hS hL h1 h2
  have hq := hW.lt_a he
  have hR : inR z := ⟨by omega, by omega⟩
  show W _ _ _ _ _ _ _ _ _ _ H locs cells slots _ (F0 _ pc ls (.int (iI z) :: .ref (rho (CX.cm x) q) :: _))
  rw [rho_lt (Nat.lt_of_lt_of_le hq hW.1)]
  have hat := wl_at (x := CX.cm x) (σ := σ) hq
  rw [he] at hat
  have hk := kk ok H locs cells slots ls hW hS hL h1 h2
  rcases ht with rfl | rfl
  · refine va_aldq (C := RX1) ok.1 ok.2.1 ok.2.2.2.2.2.2.2.2.1.1 hW.2.2.1 q 2 hat rfl (iI_in h0 hz hR) hd ?_
    rw [iI_clamp hR, Int.toNat_of_nonneg h0, hg]
    exact hk
  · refine va_aldq (C := RX3) ok.1 ok.2.1 ok.2.2.2.2.2.2.2.2.1.1 hW.2.2.1 q 3 hat rfl (iI_in h0 hz hR) hd ?_
    rw [iI_clamp hR, Int.toNat_of_nonneg h0, hg]
    exact hk
theorem P.alen {q : Nat} {t n : Nat} {c : (Int → Int) ⊕ (Int → Option Nat)} (hd : decode (MI.cc M) pc = .ok (.arraylength, 1)) (he : σ q = .inl (t, n, c)) (ht : t < 4) (kk : P x d M Q b (pc + 1) L (vI n :: st) N σ) : P x d M Q b pc L (vR q :: st) N σ := by
  intro ok H locs cells slots ls hW hS hL h1 h2
  have hq := hW.lt_a he
  show W _ _ _ _ _ _ _ _ _ _ H locs cells slots _ (F0 _ pc ls (.ref (rho (CX.cm x) q) :: _))
  rw [rho_lt (Nat.lt_of_lt_of_le hq hW.1)]
  have hat := wl_at (x := CX.cm x) (σ := σ) hq
  rw [he] at hat
  have hk := kk ok H locs cells slots ls hW hS hL h1 h2
  have key : ∀ (y : vp_A) (ty : FieldType), y.1 = n → (wl (CX.cm x) N σ)[q]? = some (CM.base (CX.cm x) + q, .inl (CM.cy (CX.cm x) t, y)) → (tysJ (CX.cm x))[t]? = some (CM.cy (CX.cm x) t, ty) → W (CX.p x) (CM.l (CX.cm x)) (CX.e x) (CX.R x) (CX.s x) (CX.m x) (CX.args x) (CX.below x) (CX.meth x) (CX.c x) H locs cells slots (CX.Z x) (F0 (CX.m x) pc ls (.ref (CM.base (CX.cm x) + q) :: st.map (cvx (CX.cm x)))) := by
    intro y ty hy hy2 hy3
    exact va_alen ok.1 ok.2.1 ok.2.2.2.2.2.2.2.2.1.1 hW.2.2.1 q t hy2 hy3 (v := iI n) (by rw [hy]; exact nI_iI n) hd hk
  have ht4 : t = 0 ∨ t = 1 ∨ t = 2 ∨ t = 3 := by omega
  cases c <;> rcases ht4 with rfl | rfl | rfl | rfl <;> exact key _ _ rfl hat rfl
theorem P.iast {q n : Nat} {f : Int → Int} {z v : Int} (hd : decode (MI.cc M) pc = .ok (.iastore, 1)) (he : σ q = pcI 0 n f) (h0 : 0 ≤ z) (hz : z < n) (hn : n < 2147483648) (kk : P x d M Q b (pc + 1) L st N (up σ q (pcI 0 n (upI f z v)))) : P x d M Q b pc L (vI v :: vI z :: vR q :: st) N σ := by
  intro ok H locs cells slots ls hW hS hL h1 h2
  have hq := hW.lt_a he
  have hR : inR z := ⟨by omega, by omega⟩
  show W _ _ _ _ _ _ _ _ _ _ H locs cells slots _ (F0 _ pc ls (.int (iI v) :: .int (iI z) :: .ref (rho (CX.cm x) q) :: _))
  rw [rho_lt (Nat.lt_of_lt_of_le hq hW.1)]
  have hat := wl_at (x := CX.cm x) (σ := σ) hq
  rw [he] at hat
  refine va_iast ok.1 ok.2.1 ok.2.2.2.2.2.2.2.2.1.1 hW.2.2.1 wl_D hS q 0 hat rfl (iI_in h0 hz hR) hd (fun H1 locs1 hP1 _ hS1 => W.bySize fun hsz => ?_)
  have e1 : upd (fun j : Nat => iI (f (j : Int))) (iI z).toNatClampNeg (iI v) = fun j : Nat => iI (upI f z v (j : Int)) := by
    funext j
    unfold upd upI
    rw [iI_clamp hR]
    by_cases hj : j = z.toNat
    · rw [if_pos hj, if_pos (by omega)]
    · rw [if_neg hj, if_neg (by omega)]
  rw [e1] at hP1
  have hP2 : va_P (CM.dC (CX.cm x), CM.dI (CX.cm x)) vwCl ((wl (CX.cm x) N σ).set q (CM.base (CX.cm x) + q, cE (rho (CX.cm x)) (CM.cy (CX.cm x)) (pcI 0 n (upI f z v)))) H1 := hP1
  rw [wl_set] at hP2
  exact kk ok H1 locs1 cells slots ls (hW.stored hq hP2 (by omega)) hS1 hL h1 h2
theorem P.zast {q n : Nat} {f : Int → Int} {z v : Int} (hd : decode (MI.cc M) pc = .ok (.bastore, 1)) (he : σ q = pcI 1 n f) (h0 : 0 ≤ z) (hz : z < n) (hn : n < 2147483648) (hv : v = 0 ∨ v = 1) (kk : P x d M Q b (pc + 1) L st N (up σ q (pcI 1 n (upI f z v)))) : P x d M Q b pc L (vI v :: vI z :: vR q :: st) N σ := by
  intro ok H locs cells slots ls hW hS hL h1 h2
  have hq := hW.lt_a he
  have hR : inR z := ⟨by omega, by omega⟩
  show W _ _ _ _ _ _ _ _ _ _ H locs cells slots _ (F0 _ pc ls (.int (iI v) :: .int (iI z) :: .ref (rho (CX.cm x) q) :: _))
  rw [rho_lt (Nat.lt_of_lt_of_le hq hW.1)]
  have hat := wl_at (x := CX.cm x) (σ := σ) hq
  rw [he] at hat
  refine va_zast ok.1 ok.2.1 ok.2.2.2.2.2.2.2.2.1.1 hW.2.2.1 wl_D hS q 1 hat rfl (iI_in h0 hz hR) hd (fun H1 locs1 hP1 _ hS1 => W.bySize fun hsz => ?_)
  have hnar : vp_nar .boolean (iI v) = iI v := by rcases hv with rfl | rfl <;> decide +kernel
  have e1 : upd (fun j : Nat => iI (f (j : Int))) (iI z).toNatClampNeg (vp_nar .boolean (iI v)) = fun j : Nat => iI (upI f z v (j : Int)) := by
    rw [hnar]
    funext j
    unfold upd upI
    rw [iI_clamp hR]
    by_cases hj : j = z.toNat
    · rw [if_pos hj, if_pos (by omega)]
    · rw [if_neg hj, if_neg (by omega)]
  rw [e1] at hP1
  have hP2 : va_P (CM.dC (CX.cm x), CM.dI (CX.cm x)) vwCl ((wl (CX.cm x) N σ).set q (CM.base (CX.cm x) + q, cE (rho (CX.cm x)) (CM.cy (CX.cm x)) (pcI 1 n (upI f z v)))) H1 := hP1
  rw [wl_set] at hP2
  exact kk ok H1 locs1 cells slots ls (hW.stored hq hP2 (by omega)) hS1 hL h1 h2
/-! returns -/
theorem P.iret {z : Int} (hd : decode (MI.cc M) pc = .ok (.ireturn, 1)) (hlw : MI.lw M = false) (hr : MI.ret M = some .int) (hb : b.1 = 0) (hQ : Q (some (vI z)) σ) : P x d M Q b pc L [vI z] N σ := by
  intro ok H locs cells slots ls hW hS hL h1 h2
  have hlocks : (CX.meth x).locks = false := ok.2.2.2.2.1
  obtain ⟨N0, hN0, hZ⟩ := ok.2.2.2.2.2.2.2.2.2.2.2.2.2.1 hlw
  rw [hZ]
  have hN : N = N0 + CX.mc x := by omega
  refine W.widen (k := CX.mc x) (n := CX.ms x) (by omega) (by omega) ?_
  exact W.iret (v := iI z) ok.1 ok.2.1 (ok.2.2.2.1.trans hr) (fun t ht hw => ⟨⟨some (vI z), σ, rfl, hQ, by rw [ht, ← hN]; exact hW⟩, hS.F ht⟩) hS.2.2 hd
theorem P.zret {z : Int} (hd : decode (MI.cc M) pc = .ok (.ireturn, 1)) (hlw : MI.lw M = false) (hr : MI.ret M = some .boolean) (hz : z = 0 ∨ z = 1) (hb : b.1 = 0) (hQ : Q (some (vI z)) σ) : P x d M Q b pc L [vI z] N σ := by
  intro ok H locs cells slots ls hW hS hL h1 h2
  have hlocks : (CX.meth x).locks = false := ok.2.2.2.2.1
  obtain ⟨N0, hN0, hZ⟩ := ok.2.2.2.2.2.2.2.2.2.2.2.2.2.1 hlw
  rw [hZ]
  have hN : N = N0 + CX.mc x := by omega
  refine W.widen (k := CX.mc x) (n := CX.ms x) (by omega) (by omega) ?_
  exact W.zret (v := iI z) ok.1 ok.2.1 (ok.2.2.2.1.trans hr) (by rcases hz with rfl | rfl <;> decide +kernel) (fun t ht hw => ⟨⟨some (vI z), σ, rfl, hQ, by rw [ht, ← hN]; exact hW⟩, hS.F ht⟩) hS.2.2 hd
theorem P.vret (hd : decode (MI.cc M) pc = .ok (.return_, 1)) (hlw : MI.lw M = false) (hr : MI.ret M = none) (hb : b.1 = 0) (hQ : Q none σ) : P x d M Q b pc L [] N σ := by
  intro ok H locs cells slots ls hW hS hL h1 h2
  have hlocks : (CX.meth x).locks = false := ok.2.2.2.2.1
  obtain ⟨N0, hN0, hZ⟩ := ok.2.2.2.2.2.2.2.2.2.2.2.2.2.1 hlw
  rw [hZ]
  have hN : N = N0 + CX.mc x := by omega
  refine W.widen (k := CX.mc x) (n := CX.ms x) (by omega) (by omega) ?_
  exact W.vret ok.1 ok.2.1 (ok.2.2.2.1.trans hr) (fun t ht hw => ⟨⟨none, σ, rfl, hQ, by rw [ht, ← hN]; exact hW⟩, hS.F ht⟩) hS.2.2 hd
end
end
section
/-! a method out of its body -/
def dnL : List Value → List (Option Value)
  | [] => []
  | v :: vs => if v.category = 2 then some v :: none :: dnL vs else some v :: dnL vs
def entL (nL : Nat) (as : List Value) : List (Option Value) := dnL as ++ List.replicate (nL - (dnL as).length) none
theorem dnL_args (ρ : Nat → Nat) : ∀ (as : List Value) (k i : Nat) (v : Value), (dnL as)[i]? = some (some v) → (k + i, cvv ρ v) ∈ lv_args k (as.map (cvv ρ)) := by
  intro as
  induction as with
  | nil => intro k i v h; simp [dnL] at h
  | cons a as ih =>
    intro k i v h
    show _ ∈ (k, cvv ρ a) :: lv_args (if (cvv ρ a).category = 2 then k + 2 else k + 1) (as.map (cvv ρ))
    rw [cvv_cat]
    unfold dnL at h
    by_cases hc : a.category = 2
    · rw [if_pos hc] at h ⊢
      match i, h with
      | 0, h => cases h; exact List.mem_cons_self
      | 1, h => cases h
      | i + 2, h =>
        have := ih (k + 2) i v h
        rw [show k + (i + 2) = k + 2 + i by omega]
        exact List.mem_cons_of_mem _ this
    · rw [if_neg hc] at h ⊢
      match i, h with
      | 0, h => cases h; exact List.mem_cons_self
      | i + 1, h =>
        have := ih (k + 1) i v h
        rw [show k + (i + 1) = k + 1 + i by omega]
        exact List.mem_cons_of_mem _ this
theorem Lv.entry {ρ : Nat → Nat} {nL : Nat} {as : List Value} {ls : Array Slot} (h : lv_has ls nL (lv_args 0 (as.map (cvv ρ)))) : Lv ρ ls nL (entL nL as) := by
  refine ⟨h.1, h.2.1, fun i v hi => ?_⟩
  unfold entL at hi
  by_cases hl : i < (dnL as).length
  · rw [List.getElem?_append_left hl] at hi
    have := dnL_args ρ as 0 i v hi
    rw [Nat.zero_add] at this
    exact h.2.2 (i, cvv ρ v) this
  · rw [List.getElem?_append_right (by omega)] at hi
    have := List.mem_of_getElem? hi
    have := List.eq_of_mem_replicate this
    cases this
theorem lg_sl_len (ρ : Nat → Nat) : ∀ as : List Value, (lg_sl (as.map (cvv ρ))).length = (dnL as).length := by
  intro as
  induction as with
  | nil => rfl
  | cons a as ih =>
    have e1 : lg_sl ((a :: as).map (cvv ρ)) = (if (cvv ρ a).category = 2 then [Slot.val (cvv ρ a), Slot.second] else [Slot.val (cvv ρ a)]) ++ lg_sl (as.map (cvv ρ)) := rfl
    rw [e1, cvv_cat, List.length_append, ih]
    show _ = (if a.category = 2 then some a :: none :: dnL as else some a :: dnL as).length
    by_cases hc : a.category = 2
    · rw [if_pos hc, if_pos hc]; simp; omega
    · rw [if_neg hc, if_neg hc]; simp; omega
theorem Call.of {x : CM} {d mc ms n : Nat} {M : MI} {as : List Value} {N : Nat} {σ : PH} {Q : PQ} (hM : MC M n) (hl : (dnL as).length ≤ MI.nL M)
    (h : ∀ y : CX, CX.cm y = x → P y d M Q (mc, ms) 0 (entL (MI.nL M) as) [] N σ) : Call x d mc ms M as N σ Q := by
  obtain ⟨hcode, hini, hdd, hpl, hnl, hlw⟩ := hM
  refine va_MetF (cc := MI.cc M) (maxL := MI.nL M) (ret := MI.ret M) (ws' := TW) hpl rfl ?_
  intro p e s m args below meth c s₁ B hml hv
  obtain ⟨rfl, hW, hE⟩ := hv
  have hts := atoms_spec (ws := wsM M) B.pre
  have hlen : (lg_sl (as.map (cvx x))).length ≤ MI.nL M := by rw [lg_sl_len]; exact hl
  have hlv := lv_entry (as.map (cvx x)) (n := MI.nL M) hlen
  rw [lg_entry_eq]
  generalize (lg_sl (as.map (cvx x)) ++ List.replicate (MI.nL M - (lg_sl (as.map (cvx x))).length) Slot.unset).toArray = ls at hlv ⊢
  have hL := Lv.entry hlv
  have hk := h (x, p, e, s, m, (as.map (cvx x)).toArray, below, meth, c, Rm d mc ms, mc, ms, MQ below (QQ x (N + mc) Q) (as.map (cvx x)).toArray s mc ms (AA x)) rfl
  have hs := hW.2.1
  refine hk ⟨B.exec, B.bytes, hml, B.returns, B.notSynchronized, findClass_of_methodNamed B.named, (name_of_methodNamed B.named B.method).1, fun w hw => hts w (List.mem_cons_of_mem _ hw), hE, Nat.le_refl _, Nat.le_refl _, Nat.le_refl _, Nat.le_refl _, fun _ => ⟨N, hs, rfl⟩, ?_⟩ s.heap [] 0 0 ls hW va_S.rf hL ⟨by show s.heap.size + 0 = CM.base x + N; omega, by show 0 + mc = mc; omega⟩ (by show 0 + ms ≤ ms; omega)
  show CM.base x ≤ s.heap.size
  omega
/-! calls -/
theorem MC.good {M M' : MI} {n : Nat} (h : MC M' n) : GoodIn TW (wsM M') := by
  intro w hw
  rcases List.mem_cons.mp hw with rfl | hw
  · exact ⟨h.1, good_of_word (TW_good h.1)⟩
  · exact ⟨hw, good_of_word (TW_good hw)⟩
theorem pre_of {x : CM} {N : Nat} {σ : PH} {s : State} {H : Heap} {locs : List Loc} {as : List Value} (hE : EN x s) (hW : Wd x N σ H) (hS : va_S (AA x) s.heap H locs) : PreS s H (va_Pc (as.map (cvx x)) (fun U => Wd x N σ U.heap ∧ EN x U)) (as.map (cvx x)) := by
  refine ⟨fun a U g mk q => ?_, fun U hU hw => ⟨rfl, by rw [hU]; exact hW, hE.warm hw (locs := locs) (by rw [hU]; exact hS)⟩⟩
  obtain ⟨q1, q2, q3⟩ := q
  exact ⟨q1, q2, q3.frames g mk a⟩
section
variable {x : CX} {d : Nat} {M : MI} {Q : PQ} {b : Nat × Nat} {pc : Nat} {L : List (Option Value)} {st : List Value} {N : Nat} {σ : PH}
abbrev sw (st : List Value) : Nat := (st.map fun v => v.category).sum
theorem sw_cv (ρ : Nat → Nat) (st : List Value) : ((st.map (cvv ρ)).map fun v => v.category).sum = sw st := by
  unfold sw
  congr 1
  rw [List.map_map]
  exact List.map_congr_left (fun v _ => cvv_cat ρ v)
/-- behind a call -/
theorem P.behind {mc ms : Nat} {Q' : PQ} {H : Heap} {locs : List Loc} {cells slots : Nat} {ls : Array Slot} {stc : List Value} {a : Array Value} (ok : OKx x d M Q) (hS : va_S (AA (CX.cm x)) (CX.s x).heap H locs) (hL : Lv (rho (CX.cm x)) ls (MI.nL M) L)
    (h1 : (CX.s x).heap.size + cells = CM.base (CX.cm x) + N ∧ cells + b.1 = CX.mc x) (h2 : slots + b.2 ≤ CX.ms x) (hb : mc ≤ b.1 ∧ ms ≤ b.2)
    (hr : va_Run (CX.p x) (CM.l (CX.cm x)) (CX.e x) (CX.R x) (CX.s x) (CX.m x) (CX.args x) (CX.below x) (CX.meth x) (CX.c x) H locs cells slots mc ms (F0 (CX.m x) pc ls stc) (st.map (cvx (CX.cm x))) (QQ (CX.cm x) (N + mc) Q' a) (AA (CX.cm x)))
    (k : ∀ (r : Option Value) (σ' : PH), Q' r σ' → P x d M Q (b.1 - mc, b.2 - ms) (pc + 3) L (r.toList ++ st) (N + mc) σ') :
    W (CX.p x) (CM.l (CX.cm x)) (CX.e x) (CX.R x) (CX.s x) (CX.m x) (CX.args x) (CX.below x) (CX.meth x) (CX.c x) H locs cells slots (CX.Z x) (F0 (CX.m x) pc ls stc) := by
  intro T hT X
  obtain ⟨v, st₀, t, T', L', h0, X', hL', e1, e2, ⟨⟨r, σ', hv, hQ, hWd⟩, hF⟩, hgo⟩ := hr T hT X
  have hv' : v = r.map (cvx (CX.cm x)) := by cases hv; rfl
  have hF1 := hF.1
  have hF2 := hF.2
  rw [h0] at hF1 hF2
  have hS' : va_S (AA (CX.cm x)) (CX.s x).heap T'.heap (locs ++ L') := by
    refine ⟨Nat.le_trans hS.1 (by rw [e1]; exact hF1), fun q g1 g2 => ?_, fun q hq => ?_⟩
    · rw [e1, hF2 q (Nat.lt_of_lt_of_le g1 hS.1) g2]
      exact hS.2.1 q g1 g2
    · rcases List.mem_append.mp hq with h | h
      · exact hS.2.2 q h
      · exact hL' q h
  obtain ⟨t2, a1, b1⟩ := k r σ' hQ ok T'.heap (locs ++ L') (cells + mc) (slots + ms) ls (by rw [e1]; exact hWd) hS' hL ⟨by omega, by show cells + mc + (b.1 - mc) = _; omega⟩ (by show slots + ms + (b.2 - ms) ≤ _; omega) T' rfl X'
  refine ⟨t2, hgo t2 ?_, b1⟩
  rw [hv']
  cases r
  · exact a1
  · exact a1
theorem P.callVg {i n d' mc ms q ci : Nat} {M' : MI} {As fs : List Value} {T : u_T} {nf : Nat} (hl : Cond.methodLink (MI.own M) i (MI.y M') ∈ TW) (hM : MC M' n) (hV : MV M') (hd : decode (MI.cc M) pc = .ok (.invokevirtual i, 3)) (hn : As.length = n) (hdd : d' + 1 ≤ d) (hst : sw st ≤ 8) (hb : mc ≤ b.1 ∧ ms ≤ b.2)
    (he : σ q = pcO ci fs) (hci : vwCl[ci]? = some (MI.own M', T, nf))
    (h : Call (CX.cm x) d' mc ms M' (vR q :: As) N σ (fun r σ' => P x d M Q (b.1 - mc, b.2 - ms) (pc + 3) L (r.toList ++ st) (N + mc) σ')) : P x d M Q b pc L (As.reverse ++ vR q :: st) N σ := by
  intro ok H locs cells slots ls hW hS hL h1 h2
  have hq := hW.lt_o he hci
  have hq2 : q < 1000 := Nat.lt_of_lt_of_le hq hW.1
  obtain ⟨o1, o2, o3, o4, o5, o6, o7, o8, o9, o10, o11, o12, o13, o14⟩ := id ok
  have hnl := hM.2.2.2.2.1
  have hat := wl_at (x := CX.cm x) (σ := σ) hq
  rw [he] at hat
  have hrec := va_recv (ci := ci) o9.1 hW.2.2.1 hci hat
  obtain ⟨pf, pu⟩ := pre_of (as := vR q :: As) o9 hW hS
  have hgo : va_Run (CX.p x) (CM.l (CX.cm x)) (CX.e x) (CX.R x) (CX.s x) (CX.m x) (CX.args x) (CX.below x) (CX.meth x) (CX.c x) H locs cells slots mc ms (F0 (CX.m x) pc ls ((As.reverse ++ vR q :: st).map (cvx (CX.cm x)))) (st.map (cvx (CX.cm x))) (QQ (CX.cm x) (N + mc) (fun r σ' => P x d M Q (b.1 - mc, b.2 - ms) (pc + 3) L (r.toList ++ st) (N + mc) σ') ((vR q :: As).map (cvx (CX.cm x))).toArray) (AA (CX.cm x)) := by
    have hgo0 := va_runV (cells := cells) (slots := slots) (locs := locs) (H := H) (below := CX.below x) (meth := CX.meth x) (e := CX.e x) (R := CX.R x) (As := As.map (cvx (CX.cm x))) (rest := st.map (cvx (CX.cm x))) (b := rho (CX.cm x) q) (C := MI.own M') (own := MI.own M) (index := i) (n := n) (bytes := MI.cc M') (maxL := MI.nL M') (ret := MI.ret M') (Ts := TW) (cc := MI.cc M) (nL := MI.nL M) (g := F0 (CX.m x) pc ls ((As.reverse ++ vR q :: st).map (cvx (CX.cm x))))
      ⟨o1, o2, o3, o6, o8⟩ h ⟨callB_of n o8 (MC.good (M := M) hM) rfl rfl rfl (o8 _ hM.2.1) (o8 _ hl) hM.2.2.1 ⟨by show d' + 1 ≤ _; omega, by show 8 + (MI.nL M' + 11) + 36 * d' ≤ _; omega⟩, o8 _ hV.1, o8 _ hV.2⟩ ⟨pf, by rw [rho_lt hq2]; exact hrec, pu⟩ rfl (by simpa using hn) hL.1 (by simp [cvv]) (by rw [show (F0 (CX.m x) pc ls ((As.reverse ++ vR q :: st).map (cvx (CX.cm x)))).monitorRoom = 0 from rfl, sw_cv]; omega) hd ⟨by omega, by omega⟩
    exact hgo0
  exact P.behind ok hS hL h1 h2 hb hgo (fun r σ' hk => hk)
theorem P.callSg {i n d' mc ms : Nat} {M' : MI} {As : List Value} (hl : Cond.methodLink (MI.own M) i (MI.y M') ∈ TW) (hM : MC M' n) (hV : Cond.static (MI.y M') ∈ TW) (hd : decode (MI.cc M) pc = .ok (.invokestatic i, 3)) (hn : As.length = n) (hdd : d' + 1 ≤ d) (hst : sw st ≤ 8) (hb : mc ≤ b.1 ∧ ms ≤ b.2)
    (h : Call (CX.cm x) d' mc ms M' As N σ (fun r σ' => P x d M Q (b.1 - mc, b.2 - ms) (pc + 3) L (r.toList ++ st) (N + mc) σ')) : P x d M Q b pc L (As.reverse ++ st) N σ := by
  intro ok H locs cells slots ls hW hS hL h1 h2
  obtain ⟨o1, o2, o3, o4, o5, o6, o7, o8, o9, o10, o11, o12, o13, o14⟩ := id ok
  have hnl := hM.2.2.2.2.1
  have hgo0 := va_runS (cells := cells) (slots := slots) (locs := locs) (H := H) (below := CX.below x) (meth := CX.meth x) (e := CX.e x) (R := CX.R x) (As := As.map (cvx (CX.cm x))) (rest := st.map (cvx (CX.cm x))) (own := MI.own M) (index := i) (n := n) (bytes := MI.cc M') (maxL := MI.nL M') (ret := MI.ret M') (Ts := TW) (cc := MI.cc M) (nL := MI.nL M) (g := F0 (CX.m x) pc ls ((As.reverse ++ st).map (cvx (CX.cm x))))
      ⟨o1, o2, o3, o6, o8⟩ h ⟨callB_of n o8 (MC.good (M := M) hM) rfl rfl rfl (o8 _ hM.2.1) (o8 _ hl) hM.2.2.1 ⟨by show d' + 1 ≤ _; omega, by show 8 + (MI.nL M' + 11) + 36 * d' ≤ _; omega⟩, o8 _ hV⟩ (pre_of (as := As) o9 hW hS) rfl (by simpa using hn) hL.1 (by simp) (by rw [show (F0 (CX.m x) pc ls ((As.reverse ++ st).map (cvx (CX.cm x)))).monitorRoom = 0 from rfl, sw_cv]; omega) hd ⟨by omega, by omega⟩
  exact P.behind ok hS hL h1 h2 hb hgo0 (fun r σ' hk => hk)
theorem P.callSNg {i n d' mc ms : Nat} {M' : MI} {As : List Value} {host : String} (hl : Cond.methodLinkNest (MI.own M) i (MI.y M') host ∈ nestW) (hM : MC M' n) (hV : Cond.static (MI.y M') ∈ TW) (hd : decode (MI.cc M) pc = .ok (.invokestatic i, 3)) (hn : As.length = n) (hdd : d' + 1 ≤ d) (hst : sw st ≤ 8) (hb : mc ≤ b.1 ∧ ms ≤ b.2)
    (h : Call (CX.cm x) d' mc ms M' As N σ (fun r σ' => P x d M Q (b.1 - mc, b.2 - ms) (pc + 3) L (r.toList ++ st) (N + mc) σ')) : P x d M Q b pc L (As.reverse ++ st) N σ := by
  intro ok H locs cells slots ls hW hS hL h1 h2
  obtain ⟨o1, o2, o3, o4, o5, o6, o7, o8, o9, o10, o11, o12, o13, o14⟩ := id ok
  have hnl := hM.2.2.2.2.1
  have hgo0 := va_runSN (cells := cells) (slots := slots) (locs := locs) (H := H) (below := CX.below x) (meth := CX.meth x) (e := CX.e x) (R := CX.R x) (As := As.map (cvx (CX.cm x))) (rest := st.map (cvx (CX.cm x))) (own := MI.own M) (host := host) (index := i) (n := n) (bytes := MI.cc M') (maxL := MI.nL M') (ret := MI.ret M') (Ts := TW) (cc := MI.cc M) (nL := MI.nL M) (g := F0 (CX.m x) pc ls ((As.reverse ++ st).map (cvx (CX.cm x))))
      ⟨o1, o2, o3, o6, o8⟩ h ⟨va_cnB n o8 (MC.good (M := M) hM) rfl rfl rfl (o9.2.1 _ _ _ _ hl) (o8 _ hM.2.1) hM.2.2.1 ⟨by show d' + 1 ≤ _; omega, by show 8 + (MI.nL M' + 11) + 36 * d' ≤ _; omega⟩, o8 _ hV, trivial⟩ (pre_of (as := As) o9 hW hS) rfl (by simpa using hn) hL.1 (by simp) (by rw [show (F0 (CX.m x) pc ls ((As.reverse ++ st).map (cvx (CX.cm x)))).monitorRoom = 0 from rfl, sw_cv]; omega) hd ⟨by omega, by omega⟩
  exact P.behind ok hS hL h1 h2 hb hgo0 (fun r σ' hk => hk)
theorem P.callIg {i n d' mc ms q : Nat} {M' : MI} {As : List Value} (hl : Cond.methodLink (MI.own M) i (MI.y M') ∈ TW) (hM : MC M' n) (hV : Cond.instanceMethod (MI.y M') ∈ TW) (hy : (MI.y M').name = "<init>") (hrt : MI.ret M' = none) (hd : decode (MI.cc M) pc = .ok (.invokespecial i, 3)) (hn : As.length = n) (hdd : d' + 1 ≤ d) (hst : sw st ≤ 8) (hb : mc ≤ b.1 ∧ ms ≤ b.2)
    (h : Call (CX.cm x) d' mc ms M' (vR q :: As) N σ (fun r σ' => P x d M Q (b.1 - mc, b.2 - ms) (pc + 3) L (r.toList ++ st) (N + mc) σ')) : P x d M Q b pc L (As.reverse ++ vR q :: st) N σ := by
  intro ok H locs cells slots ls hW hS hL h1 h2
  obtain ⟨o1, o2, o3, o4, o5, o6, o7, o8, o9, o10, o11, o12, o13, o14⟩ := id ok
  have hnl := hM.2.2.2.2.1
  have hcb := callB_of (R := CX.R x) (rm := Rm d' mc ms) (mc := mc) (ms := ms) (ws := wsM M') n o8 (MC.good (M := M) hM) rfl rfl rfl (o8 _ hM.2.1) (o8 _ hl) hM.2.2.1 ⟨by show d' + 1 ≤ _; omega, by show 8 + (MI.nL M' + 11) + 36 * d' ≤ _; omega⟩
  rw [hrt] at hcb
  have hgo0 := va_runI (cells := cells) (slots := slots) (locs := locs) (H := H) (below := CX.below x) (meth := CX.meth x) (e := CX.e x) (R := CX.R x) (As := As.map (cvx (CX.cm x))) (rest := st.map (cvx (CX.cm x))) (b := rho (CX.cm x) q) (own := MI.own M) (index := i) (n := n) (bytes := MI.cc M') (maxL := MI.nL M') (Ts := TW) (cc := MI.cc M) (nL := MI.nL M) (g := F0 (CX.m x) pc ls ((As.reverse ++ vR q :: st).map (cvx (CX.cm x))))
      ⟨o1, o2, o3, o6, o8⟩ h ⟨hcb, hy, o8 _ hV⟩ (pre_of (as := vR q :: As) o9 hW hS) rfl (by simpa using hn) hL.1 (by simp [cvv]) (by rw [show (F0 (CX.m x) pc ls ((As.reverse ++ vR q :: st).map (cvx (CX.cm x)))).monitorRoom = 0 from rfl, sw_cv]; omega) hd ⟨by omega, by omega⟩
  exact P.behind ok hS hL h1 h2 hb hgo0 (fun r σ' hk => hk)
theorem P.callINg {i n d' mc ms q : Nat} {M' : MI} {As : List Value} {host : String} (hl : Cond.methodLinkNest (MI.own M) i (MI.y M') host ∈ nestW) (hM : MC M' n) (hV : Cond.instanceMethod (MI.y M') ∈ TW) (hy : (MI.y M').name = "<init>") (hrt : MI.ret M' = none) (hd : decode (MI.cc M) pc = .ok (.invokespecial i, 3)) (hn : As.length = n) (hdd : d' + 1 ≤ d) (hst : sw st ≤ 8) (hb : mc ≤ b.1 ∧ ms ≤ b.2)
    (h : Call (CX.cm x) d' mc ms M' (vR q :: As) N σ (fun r σ' => P x d M Q (b.1 - mc, b.2 - ms) (pc + 3) L (r.toList ++ st) (N + mc) σ')) : P x d M Q b pc L (As.reverse ++ vR q :: st) N σ := by
  intro ok H locs cells slots ls hW hS hL h1 h2
  obtain ⟨o1, o2, o3, o4, o5, o6, o7, o8, o9, o10, o11, o12, o13, o14⟩ := id ok
  have hnl := hM.2.2.2.2.1
  have hcb := va_cnB (R := CX.R x) (rm := Rm d' mc ms) (mc := mc) (ms := ms) (ws := wsM M') n o8 (MC.good (M := M) hM) rfl rfl rfl (o9.2.1 _ _ _ _ hl) (o8 _ hM.2.1) hM.2.2.1 ⟨by show d' + 1 ≤ _; omega, by show 8 + (MI.nL M' + 11) + 36 * d' ≤ _; omega⟩
  rw [hrt] at hcb
  have hgo0 := va_runIN (cells := cells) (slots := slots) (locs := locs) (H := H) (below := CX.below x) (meth := CX.meth x) (e := CX.e x) (R := CX.R x) (As := As.map (cvx (CX.cm x))) (rest := st.map (cvx (CX.cm x))) (b := rho (CX.cm x) q) (own := MI.own M) (host := host) (index := i) (n := n) (bytes := MI.cc M') (maxL := MI.nL M') (Ts := TW) (cc := MI.cc M) (nL := MI.nL M) (g := F0 (CX.m x) pc ls ((As.reverse ++ vR q :: st).map (cvx (CX.cm x))))
      ⟨o1, o2, o3, o6, o8⟩ h ⟨hcb, hy, o8 _ hV⟩ (pre_of (as := vR q :: As) o9 hW hS) rfl (by simpa using hn) hL.1 (by simp [cvv]) (by rw [show (F0 (CX.m x) pc ls ((As.reverse ++ vR q :: st).map (cvx (CX.cm x)))).monitorRoom = 0 from rfl, sw_cv]; omega) hd ⟨by omega, by omega⟩
  exact P.behind ok hS hL h1 h2 hb hgo0 (fun r σ' hk => hk)
end
end
section
section
variable {x : CX} {d : Nat} {M : MI} {Q : PQ} {b : Nat × Nat} {pc : Nat} {L : List (Option Value)} {st : List Value} {N : Nat} {σ : PH}
theorem P.callV0 {i d' q ci : Nat} {M' : MI} {fs : List Value} {T : u_T} {nf : Nat}  (hl : Cond.methodLink (MI.own M) i (MI.y M') ∈ TW) (hM : MC M' 0) (hV : MV M') (hd : decode (MI.cc M) pc = .ok (.invokevirtual i, 3)) (hdd : d' + 1 ≤ d) (hst : sw st ≤ 8) (he : σ q = pcO ci fs) (hci : vwCl[ci]? = some (MI.own M', T, nf)) (h : Call (CX.cm x) d' 0 0 M' (vR q :: []) N σ (fun r σ' => P x d M Q b (pc + 3) L (r.toList ++ st) N σ')) : P x d M Q b pc L (vR q :: st) N σ :=
  P.callVg (As := []) (mc := 0) (ms := 0) hl hM hV hd rfl hdd hst ⟨Nat.zero_le _, Nat.zero_le _⟩ he hci h
theorem P.callV1 {i d' q ci : Nat} {M' : MI} {fs : List Value} {T : u_T} {nf : Nat} {v1 : Value} (hl : Cond.methodLink (MI.own M) i (MI.y M') ∈ TW) (hM : MC M' 1) (hV : MV M') (hd : decode (MI.cc M) pc = .ok (.invokevirtual i, 3)) (hdd : d' + 1 ≤ d) (hst : sw st ≤ 8) (he : σ q = pcO ci fs) (hci : vwCl[ci]? = some (MI.own M', T, nf)) (h : Call (CX.cm x) d' 0 0 M' (vR q :: [v1]) N σ (fun r σ' => P x d M Q b (pc + 3) L (r.toList ++ st) N σ')) : P x d M Q b pc L (v1 :: vR q :: st) N σ :=
  P.callVg (As := [v1]) (mc := 0) (ms := 0) hl hM hV hd rfl hdd hst ⟨Nat.zero_le _, Nat.zero_le _⟩ he hci h
theorem P.callS1 {i d' : Nat} {M' : MI} {v1 : Value} (hl : Cond.methodLink (MI.own M) i (MI.y M') ∈ TW) (hM : MC M' 1) (hV : Cond.static (MI.y M') ∈ TW) (hd : decode (MI.cc M) pc = .ok (.invokestatic i, 3)) (hdd : d' + 1 ≤ d) (hst : sw st ≤ 8) (h : Call (CX.cm x) d' 0 0 M' [v1] N σ (fun r σ' => P x d M Q b (pc + 3) L (r.toList ++ st) N σ')) : P x d M Q b pc L (v1 :: st) N σ :=
  P.callSg (As := [v1]) (mc := 0) (ms := 0) hl hM hV hd rfl hdd hst ⟨Nat.zero_le _, Nat.zero_le _⟩ h
theorem P.callSN1 {i d' : Nat} {M' : MI} {host : String} {v1 : Value} (hl : Cond.methodLinkNest (MI.own M) i (MI.y M') host ∈ nestW) (hM : MC M' 1) (hV : Cond.static (MI.y M') ∈ TW) (hd : decode (MI.cc M) pc = .ok (.invokestatic i, 3)) (hdd : d' + 1 ≤ d) (hst : sw st ≤ 8) (h : Call (CX.cm x) d' 0 0 M' [v1] N σ (fun r σ' => P x d M Q b (pc + 3) L (r.toList ++ st) N σ')) : P x d M Q b pc L (v1 :: st) N σ :=
  P.callSNg (As := [v1]) (mc := 0) (ms := 0) hl hM hV hd rfl hdd hst ⟨Nat.zero_le _, Nat.zero_le _⟩ h
theorem P.callV2 {i d' q ci : Nat} {M' : MI} {fs : List Value} {T : u_T} {nf : Nat} {v1 v2 : Value} (hl : Cond.methodLink (MI.own M) i (MI.y M') ∈ TW) (hM : MC M' 2) (hV : MV M') (hd : decode (MI.cc M) pc = .ok (.invokevirtual i, 3)) (hdd : d' + 1 ≤ d) (hst : sw st ≤ 8) (he : σ q = pcO ci fs) (hci : vwCl[ci]? = some (MI.own M', T, nf)) (h : Call (CX.cm x) d' 0 0 M' (vR q :: [v1, v2]) N σ (fun r σ' => P x d M Q b (pc + 3) L (r.toList ++ st) N σ')) : P x d M Q b pc L (v2 :: v1 :: vR q :: st) N σ :=
  P.callVg (As := [v1, v2]) (mc := 0) (ms := 0) hl hM hV hd rfl hdd hst ⟨Nat.zero_le _, Nat.zero_le _⟩ he hci h
theorem P.callS2 {i d' : Nat} {M' : MI} {v1 v2 : Value} (hl : Cond.methodLink (MI.own M) i (MI.y M') ∈ TW) (hM : MC M' 2) (hV : Cond.static (MI.y M') ∈ TW) (hd : decode (MI.cc M) pc = .ok (.invokestatic i, 3)) (hdd : d' + 1 ≤ d) (hst : sw st ≤ 8) (h : Call (CX.cm x) d' 0 0 M' [v1, v2] N σ (fun r σ' => P x d M Q b (pc + 3) L (r.toList ++ st) N σ')) : P x d M Q b pc L (v2 :: v1 :: st) N σ :=
  P.callSg (As := [v1, v2]) (mc := 0) (ms := 0) hl hM hV hd rfl hdd hst ⟨Nat.zero_le _, Nat.zero_le _⟩ h
theorem P.callSN2 {i d' : Nat} {M' : MI} {host : String} {v1 v2 : Value} (hl : Cond.methodLinkNest (MI.own M) i (MI.y M') host ∈ nestW) (hM : MC M' 2) (hV : Cond.static (MI.y M') ∈ TW) (hd : decode (MI.cc M) pc = .ok (.invokestatic i, 3)) (hdd : d' + 1 ≤ d) (hst : sw st ≤ 8) (h : Call (CX.cm x) d' 0 0 M' [v1, v2] N σ (fun r σ' => P x d M Q b (pc + 3) L (r.toList ++ st) N σ')) : P x d M Q b pc L (v2 :: v1 :: st) N σ :=
  P.callSNg (As := [v1, v2]) (mc := 0) (ms := 0) hl hM hV hd rfl hdd hst ⟨Nat.zero_le _, Nat.zero_le _⟩ h
theorem P.callV3 {i d' q ci : Nat} {M' : MI} {fs : List Value} {T : u_T} {nf : Nat} {v1 v2 v3 : Value} (hl : Cond.methodLink (MI.own M) i (MI.y M') ∈ TW) (hM : MC M' 3) (hV : MV M') (hd : decode (MI.cc M) pc = .ok (.invokevirtual i, 3)) (hdd : d' + 1 ≤ d) (hst : sw st ≤ 8) (he : σ q = pcO ci fs) (hci : vwCl[ci]? = some (MI.own M', T, nf)) (h : Call (CX.cm x) d' 0 0 M' (vR q :: [v1, v2, v3]) N σ (fun r σ' => P x d M Q b (pc + 3) L (r.toList ++ st) N σ')) : P x d M Q b pc L (v3 :: v2 :: v1 :: vR q :: st) N σ :=
  P.callVg (As := [v1, v2, v3]) (mc := 0) (ms := 0) hl hM hV hd rfl hdd hst ⟨Nat.zero_le _, Nat.zero_le _⟩ he hci h
theorem P.callS3 {i d' : Nat} {M' : MI} {v1 v2 v3 : Value} (hl : Cond.methodLink (MI.own M) i (MI.y M') ∈ TW) (hM : MC M' 3) (hV : Cond.static (MI.y M') ∈ TW) (hd : decode (MI.cc M) pc = .ok (.invokestatic i, 3)) (hdd : d' + 1 ≤ d) (hst : sw st ≤ 8) (h : Call (CX.cm x) d' 0 0 M' [v1, v2, v3] N σ (fun r σ' => P x d M Q b (pc + 3) L (r.toList ++ st) N σ')) : P x d M Q b pc L (v3 :: v2 :: v1 :: st) N σ :=
  P.callSg (As := [v1, v2, v3]) (mc := 0) (ms := 0) hl hM hV hd rfl hdd hst ⟨Nat.zero_le _, Nat.zero_le _⟩ h
theorem P.callSN3 {i d' : Nat} {M' : MI} {host : String} {v1 v2 v3 : Value} (hl : Cond.methodLinkNest (MI.own M) i (MI.y M') host ∈ nestW) (hM : MC M' 3) (hV : Cond.static (MI.y M') ∈ TW) (hd : decode (MI.cc M) pc = .ok (.invokestatic i, 3)) (hdd : d' + 1 ≤ d) (hst : sw st ≤ 8) (h : Call (CX.cm x) d' 0 0 M' [v1, v2, v3] N σ (fun r σ' => P x d M Q b (pc + 3) L (r.toList ++ st) N σ')) : P x d M Q b pc L (v3 :: v2 :: v1 :: st) N σ :=
  P.callSNg (As := [v1, v2, v3]) (mc := 0) (ms := 0) hl hM hV hd rfl hdd hst ⟨Nat.zero_le _, Nat.zero_le _⟩ h
theorem P.callV4 {i d' q ci : Nat} {M' : MI} {fs : List Value} {T : u_T} {nf : Nat} {v1 v2 v3 v4 : Value} (hl : Cond.methodLink (MI.own M) i (MI.y M') ∈ TW) (hM : MC M' 4) (hV : MV M') (hd : decode (MI.cc M) pc = .ok (.invokevirtual i, 3)) (hdd : d' + 1 ≤ d) (hst : sw st ≤ 8) (he : σ q = pcO ci fs) (hci : vwCl[ci]? = some (MI.own M', T, nf)) (h : Call (CX.cm x) d' 0 0 M' (vR q :: [v1, v2, v3, v4]) N σ (fun r σ' => P x d M Q b (pc + 3) L (r.toList ++ st) N σ')) : P x d M Q b pc L (v4 :: v3 :: v2 :: v1 :: vR q :: st) N σ :=
  P.callVg (As := [v1, v2, v3, v4]) (mc := 0) (ms := 0) hl hM hV hd rfl hdd hst ⟨Nat.zero_le _, Nat.zero_le _⟩ he hci h
theorem P.callS4 {i d' : Nat} {M' : MI} {v1 v2 v3 v4 : Value} (hl : Cond.methodLink (MI.own M) i (MI.y M') ∈ TW) (hM : MC M' 4) (hV : Cond.static (MI.y M') ∈ TW) (hd : decode (MI.cc M) pc = .ok (.invokestatic i, 3)) (hdd : d' + 1 ≤ d) (hst : sw st ≤ 8) (h : Call (CX.cm x) d' 0 0 M' [v1, v2, v3, v4] N σ (fun r σ' => P x d M Q b (pc + 3) L (r.toList ++ st) N σ')) : P x d M Q b pc L (v4 :: v3 :: v2 :: v1 :: st) N σ :=
  P.callSg (As := [v1, v2, v3, v4]) (mc := 0) (ms := 0) hl hM hV hd rfl hdd hst ⟨Nat.zero_le _, Nat.zero_le _⟩ h
theorem P.callSN4 {i d' : Nat} {M' : MI} {host : String} {v1 v2 v3 v4 : Value} (hl : Cond.methodLinkNest (MI.own M) i (MI.y M') host ∈ nestW) (hM : MC M' 4) (hV : Cond.static (MI.y M') ∈ TW) (hd : decode (MI.cc M) pc = .ok (.invokestatic i, 3)) (hdd : d' + 1 ≤ d) (hst : sw st ≤ 8) (h : Call (CX.cm x) d' 0 0 M' [v1, v2, v3, v4] N σ (fun r σ' => P x d M Q b (pc + 3) L (r.toList ++ st) N σ')) : P x d M Q b pc L (v4 :: v3 :: v2 :: v1 :: st) N σ :=
  P.callSNg (As := [v1, v2, v3, v4]) (mc := 0) (ms := 0) hl hM hV hd rfl hdd hst ⟨Nat.zero_le _, Nat.zero_le _⟩ h
end
/-- Math.max, walked -/
theorem ct_try {x : CM} {d N : Nat} {σ : PH} {Q : PQ} {a c : Int} (ha : inR a) (hc : inR c) (h : Q (some (vI (if c ≤ a then a else c))) σ) : Call x d 0 0 mJ9_max_7cf53 [vI a, vI c] N σ Q := by
  refine Call.of mcJ9_max_7cf53 (Nat.le_of_ble_eq_true rfl) (fun y hy => ?_)
  subst hy
  refine P.iload_n (dq dtJ9_max_7cf53 0 rfl) rfl ?_
  refine P.iload_n (dq dtJ9_max_7cf53 1 rfl) rfl ?_
  refine P.icmp_lt (t := 9) (dq dtJ9_max_7cf53 2 rfl) rfl ha hc (fun h1 => ?_) (fun h1 => ?_)
  · refine P.iload_n (dq dtJ9_max_7cf53 5 rfl) rfl ?_
    rw [if_neg (by omega)] at h
    exact P.iret (dq dtJ9_max_7cf53 6 rfl) rfl rfl rfl h
  · refine P.iload_n (dq dtJ9_max_7cf53 3 rfl) rfl ?_
    refine P.goto (t := 10) (dq dtJ9_max_7cf53 4 rfl) rfl ?_
    rw [if_pos (by omega)] at h
    exact P.iret (dq dtJ9_max_7cf53 6 rfl) rfl rfl rfl h
end
section
/-! what is made: objects, arrays; texts; arraycopy; stores of references -/
theorem wl_push {x : CM} {N : Nat} {σ : PH} {e : PC} (h : ∀ k : Nat, N ≤ k → σ k = junk) : wl x N σ ++ [(CM.base x + N, cE (rho x) (CM.cy x) e)] = wl x (N + 1) (up σ N e) := by
  unfold wl
  rw [List.range_succ, List.map_append]
  congr 1
  · apply List.map_congr_left
    intro k hk
    have : k < N := List.mem_range.mp hk
    rw [up_n (by omega)]
  · simp [up_s]
theorem Wd.pushed {x : CM} {N : Nat} {σ : PH} {H H1 : Heap} {e : PC} (h : Wd x N σ H) (hN : N < 1000) (hz : H1.size = H.size + 1) (hk : ∀ q : Nat, q < H.size → H1[q]? = H[q]?) (he : va_at (CM.dC x, CM.dI x) vwCl (CM.base x + N, cE (rho x) (CM.cy x) e) H1) : Wd x (N + 1) (up σ N e) H1 := by
  refine ⟨by omega, by rw [hz, h.2.1]; omega, ?_, fun k hk => ?_⟩
  · rw [← wl_push h.2.2.2]
    refine (h.2.2.1.kept (fun k q hq => hk q.1 ((h.2.2.1 k q hq).lt))).app (fun k q hq => ?_)
    have hz : k < 1 := (List.getElem?_eq_some_iff.mp hq).1
    rw [show k = 0 by omega] at hq
    cases hq
    exact he
  · rw [up_n (by omega)]
    exact h.2.2.2 k (by omega)
theorem va_S.pushed {x : CM} {H0 H H1 : Heap} {locs : List Loc} (h : va_S (AA x) H0 H locs) (hz : H1.size = H.size + 1) (hk : ∀ q : Nat, q < H.size → H1[q]? = H[q]?) : va_S (AA x) H0 H1 locs :=
  ⟨Nat.le_trans h.1 (by omega), fun q g1 g2 => (hk q (Nat.lt_of_lt_of_le g1 h.1)).trans (h.2.1 q g1 g2), h.2.2⟩
def dflt (ds : String) : Value := match parseFieldDescriptor ds with
  | some ty => defaultValue ty
  | none => .null
section
variable {x : CX} {d : Nat} {M : MI} {Q : PQ} {b : Nat × Nat} {pc : Nat} {L : List (Option Value)} {st : List Value} {N : Nat} {σ : PH}
theorem P.new {i ci n b1 b2 : Nat} {C : String} {T : u_T} {fs : List Value} (hd : decode (MI.cc M) pc = .ok (.new i, 3)) (hl : Cond.classLink (MI.own M) i C ∈ TW) (hc : vwCl[ci]? = some (C, T, n)) (hfs : (List.range n).map (fun j => dflt (T j).2.2.1) = fs) (hfc : fs.map (cvx (CX.cm x)) = fs) (hN : N < 1000)
    (kk : P x d M Q (b1, b2) (pc + 3) L (vR N :: st) (N + 1) (up σ N (pcO ci fs))) : P x d M Q (b1 + 1, b2 + n) pc L st N σ := by
  intro ok H locs cells slots ls hW hS hL h1 h2
  obtain ⟨o1, o2, o3, o4, o5, o6, o7, o8, o9, o10, o11, o12, o13, o14⟩ := id ok
  obtain ⟨hin, ⟨ty, hty⟩, hnm, hinst, hini⟩ := cl_ok ci _ hc
  have hKn := o9.1.1 ci _ hc
  have h1b : cells + (b1 + 1) = CX.mc x := h1.2
  have h2b : slots + (b2 + n) ≤ CX.ms x := h2
  refine W.newcK o1 o2 o6 (o8 _ hl) (o8 _ hinst) (o8 _ hini) rfl hd (by omega) (by show slots + n ≤ _; omega) hKn.2.1 hW.2.1 fun H1 kC hkC e1 z1 q1 => ?_
  have hz : H1.size = H.size + 1 := by rw [z1, hW.2.1]
  have hk : ∀ q : Nat, q < H.size → H1[q]? = H[q]? := fun q hq => q1 q (by rw [hW.2.1] at hq; exact hq)
  have hfs2 : ∀ j, j < n → defaultValue (ty j) = vp_V (fs.map (cvv (rho (CX.cm x)))) j := by
    intro j hj
    have e2 : fs[j]? = some (dflt (T j).2.2.1) := by rw [← hfs, List.getElem?_map, List.getElem?_range hj]; rfl
    have e3 : dflt (T j).2.2.1 = defaultValue (ty j) := by unfold dflt; rw [hty j hj]
    have e4 : fs.map (cvv (rho (CX.cm x))) = fs := hfc
    rw [e4]
    unfold vp_V
    rw [List.getD_eq_getElem?_getD, e2, e3]
    rfl
  have hat : va_at (CM.dC (CX.cm x), CM.dI (CX.cm x)) vwCl (CM.base (CX.cm x) + N, cE (rho (CX.cm x)) (CM.cy (CX.cm x)) (pcO ci fs)) H1 := ⟨_, hc, (u_born ty o8 hin hKn hkC e1 hty).to hfs2⟩
  have hk2 := kk ok H1 locs (cells + 1) (slots + n) ls (hW.pushed hN hz hk hat) (hS.pushed hz hk) hL ⟨by omega, by show cells + 1 + b1 = _; omega⟩ (by show slots + n + b2 ≤ _; omega)
  have e5 : (vR N :: st).map (cvx (CX.cm x)) = .ref (CM.base (CX.cm x) + N) :: st.map (cvx (CX.cm x)) := by
    show Value.ref (rho (CX.cm x) N) :: _ = _
    rw [rho_lt hN]
  rw [e5] at hk2
  exact hk2
theorem P.newI {n b1 b2 : Nat} {z : Int} (hd : decode (MI.cc M) pc = .ok (.newarray .int, 2)) (hz0 : z = (n : Int)) (hn : n < 100000) (hN : N < 1000)
    (kk : P x d M Q (b1, b2) (pc + 2) L (vR N :: st) (N + 1) (up σ N (pcI 0 n (fun _ => 0)))) : P x d M Q (b1 + 1, b2 + n) pc L (vI z :: st) N σ := by
  intro ok H locs cells slots ls hW hS hL h1 h2
  obtain ⟨o1, o2, o3, o4, o5, o6, o7, o8, o9, o10, o11, o12, o13, o14⟩ := id ok
  have h1b : cells + (b1 + 1) = CX.mc x := h1.2
  have h2b : slots + (b2 + n) ≤ CX.ms x := h2
  have hR : inR z := ⟨by omega, by omega⟩
  have hcl : (iI z).toNatClampNeg = n := by rw [iI_clamp hR]; omega
  refine va_newaK (atype := .int) (N := n) (n := iI z) (rest := st.map (cvx (CX.cm x))) o1 o2 (o8 _ w_acI) rfl hd rfl (fun h => by have := (iI_lt hR inR_0).mp h; omega) hcl (by show n * 4 ≤ _; omega) (by omega) (by omega) hW.2.1 fun H1 cA e1 z1 q1 hAr hNm => ?_
  obtain rfl : cA = CM.cy (CX.cm x) 0 := Option.some.inj (hNm.symm.trans (o9.1.2 0 _ rfl).2)
  have hz : H1.size = H.size + 1 := by rw [z1, hW.2.1]
  have hk : ∀ q : Nat, q < H.size → H1[q]? = H[q]? := fun q hq => q1 q (by rw [hW.2.1] at hq; exact hq)
  have hk2 := kk ok H1 locs (cells + 1) (slots + n) ls (hW.pushed hN hz hk (show H1[_]? = some (vp_cell _ _) from e1)) (hS.pushed hz hk) hL ⟨by omega, by show cells + 1 + b1 = _; omega⟩ (by show slots + n + b2 ≤ _; omega)
  have e5 : (vR N :: st).map (cvx (CX.cm x)) = .ref (CM.base (CX.cm x) + N) :: st.map (cvx (CX.cm x)) := by
    show Value.ref (rho (CX.cm x) N) :: _ = _
    rw [rho_lt hN]
  rw [e5] at hk2
  exact hk2
theorem P.newZ {n b1 b2 : Nat} {z : Int} (hd : decode (MI.cc M) pc = .ok (.newarray .boolean, 2)) (hz0 : z = (n : Int)) (hn : n < 100000) (hN : N < 1000)
    (kk : P x d M Q (b1, b2) (pc + 2) L (vR N :: st) (N + 1) (up σ N (pcI 1 n (fun _ => 0)))) : P x d M Q (b1 + 1, b2 + n) pc L (vI z :: st) N σ := by
  intro ok H locs cells slots ls hW hS hL h1 h2
  obtain ⟨o1, o2, o3, o4, o5, o6, o7, o8, o9, o10, o11, o12, o13, o14⟩ := id ok
  have h1b : cells + (b1 + 1) = CX.mc x := h1.2
  have h2b : slots + (b2 + n) ≤ CX.ms x := h2
  have hR : inR z := ⟨by omega, by omega⟩
  have hcl : (iI z).toNatClampNeg = n := by rw [iI_clamp hR]; omega
  refine va_newaK (atype := .boolean) (N := n) (n := iI z) (rest := st.map (cvx (CX.cm x))) o1 o2 (o8 _ w_acZ) rfl hd rfl (fun h => by have := (iI_lt hR inR_0).mp h; omega) hcl (by show n * 1 ≤ _; omega) (by omega) (by omega) hW.2.1 fun H1 cA e1 z1 q1 hAr hNm => ?_
  obtain rfl : cA = CM.cy (CX.cm x) 1 := Option.some.inj (hNm.symm.trans (o9.1.2 1 _ rfl).2)
  have hz : H1.size = H.size + 1 := by rw [z1, hW.2.1]
  have hk : ∀ q : Nat, q < H.size → H1[q]? = H[q]? := fun q hq => q1 q (by rw [hW.2.1] at hq; exact hq)
  have hk2 := kk ok H1 locs (cells + 1) (slots + n) ls (hW.pushed hN hz hk (show H1[_]? = some (vp_cell _ _) from e1)) (hS.pushed hz hk) hL ⟨by omega, by show cells + 1 + b1 = _; omega⟩ (by show slots + n + b2 ≤ _; omega)
  have e5 : (vR N :: st).map (cvx (CX.cm x)) = .ref (CM.base (CX.cm x) + N) :: st.map (cvx (CX.cm x)) := by
    show Value.ref (rho (CX.cm x) N) :: _ = _
    rw [rho_lt hN]
  rw [e5] at hk2
  exact hk2
theorem P.newR {i n b1 b2 t : Nat} {z : Int} {C : String} (hd : decode (MI.cc M) pc = .ok (.anewarray i, 3)) (hl : Cond.classLink (MI.own M) i C ∈ TW) (hC : (C = RX1 ∧ t = 2) ∨ (C = RX3 ∧ t = 3)) (hz0 : z = (n : Int)) (hn : n < 100000) (hN : N < 1000)
    (kk : P x d M Q (b1, b2) (pc + 3) L (vR N :: st) (N + 1) (up σ N (pcR t n (fun _ => none)))) : P x d M Q (b1 + 1, b2 + n) pc L (vI z :: st) N σ := by
  intro ok H locs cells slots ls hW hS hL h1 h2
  obtain ⟨o1, o2, o3, o4, o5, o6, o7, o8, o9, o10, o11, o12, o13, o14⟩ := id ok
  have h1b : cells + (b1 + 1) = CX.mc x := h1.2
  have h2b : slots + (b2 + n) ≤ CX.ms x := h2
  have hR : inR z := ⟨by omega, by omega⟩
  have hcl : (iI z).toNatClampNeg = n := by rw [iI_clamp hR]; omega
  have hcy : ∃ (kA : Class) (comp : ClassId), (CX.s x).vm.classes[CM.cy (CX.cm x) t]? = some kA ∧ kA.kind = .array comp (.object C) ∧ (CX.s x).vm.findClass C = some comp ∧ (CX.s x).vm.findClass ("[" ++ (FieldType.object C).toString) = some (CM.cy (CX.cm x) t) := by
    rcases hC with ⟨rfl, rfl⟩ | ⟨rfl, rfl⟩
    · exact (o9.1.2 2 _ rfl).2
    · exact (o9.1.2 3 _ rfl).2
  have hao : va_AO C (CX.s x) := by
    rcases hC with ⟨rfl, rfl⟩ | ⟨rfl, rfl⟩
    · exact o9.2.2.1
    · exact o9.2.2.2.1
  obtain ⟨kA0, comp0, g1, g2, g3, g4⟩ := hcy
  refine W.anew (n := iI z) (rest := st.map (cvx (CX.cm x))) o1 o2 o6 (o8 _ hl) (va_AO.use hao) rfl hd rfl (fun h => by have := (iI_lt hR inR_0).mp h; omega) (by rw [hcl]; omega) (by omega) (by rw [hcl]; omega) fun cA kA comp f1 f2 f3 f4 => ?_
  obtain rfl : cA = CM.cy (CX.cm x) t := Option.some.inj (f1.symm.trans g4)
  rw [hcl]
  generalize hH1 : H.push ({ cls := CM.cy (CX.cm x) t, slots := Array.replicate n .null, vm := .none } : Cell) = H1
  have hz : H1.size = H.size + 1 := by rw [← hH1, Array.size_push]
  have hk : ∀ q : Nat, q < H.size → H1[q]? = H[q]? := fun q hq => by rw [← hH1, Array.getElem?_push, if_neg (Nat.ne_of_lt hq)]
  have e1 : H1[CM.base (CX.cm x) + N]? = some (arrV (CM.cy (CX.cm x) t) n (fun _ => .null)) := by rw [← hW.2.1, ← hH1, Array.getElem?_push_size, ← arrV_new]
  have hk2 := kk ok H1 locs (cells + 1) (slots + n) ls (hW.pushed hN hz hk (show H1[_]? = some (vp_cell _ _) from e1)) (hS.pushed hz hk) hL ⟨by omega, by show cells + 1 + b1 = _; omega⟩ (by show slots + n + b2 ≤ _; omega)
  have e5 : (vR N :: st).map (cvx (CX.cm x)) = .ref H.size :: st.map (cvx (CX.cm x)) := by
    show Value.ref (rho (CX.cm x) N) :: _ = _
    rw [rho_lt hN, hW.2.1]
  rw [e5] at hk2
  exact hk2
theorem P.aast {q n t a ci : Nat} {g : Int → Option Nat} {z : Int} {fs : List Value} {C : String} {T : u_T} {nf : Nat} (hd : decode (MI.cc M) pc = .ok (.aastore, 1)) (he : σ q = pcR t n g) (ha : σ a = pcO ci fs) (hc : vwCl[ci]? = some (C, T, nf)) (hC : (C = RX1 ∧ t = 2) ∨ (C = RX3 ∧ t = 3)) (h0 : 0 ≤ z) (hz : z < n) (hn : n < 2147483648)
    (kk : P x d M Q b (pc + 1) L st N (up σ q (pcR t n (upI g z (some a))))) : P x d M Q b pc L (vR a :: vI z :: vR q :: st) N σ := by
  intro ok H locs cells slots ls hW hS hL h1 h2
  have hq := hW.lt_a he
  have haq := hW.lt_o ha hc
  have hR : inR z := ⟨by omega, by omega⟩
  have o9 := ok.2.2.2.2.2.2.2.2.1
  show W _ _ _ _ _ _ _ _ _ _ H locs cells slots _ (F0 _ pc ls (.ref (rho (CX.cm x) a) :: .int (iI z) :: .ref (rho (CX.cm x) q) :: _))
  rw [rho_lt (Nat.lt_of_lt_of_le hq hW.1), rho_lt (Nat.lt_of_lt_of_le haq hW.1)]
  have hat := wl_at (x := CX.cm x) (σ := σ) hq
  rw [he] at hat
  have hat2 := wl_at (x := CX.cm x) (σ := σ) haq
  rw [ha] at hat2
  have hty : (tysJ (CX.cm x))[t]? = some (CM.cy (CX.cm x) t, .object C) := by
    rcases hC with ⟨rfl, rfl⟩ | ⟨rfl, rfl⟩ <;> rfl
  refine va_astq (r := (C, T, nf)) ok.1 ok.2.1 o9.1 hW.2.2.1 wl_D hS q t a ci hat hty hat2 hc (iI_in h0 hz hR) hd (fun H1 locs1 hP1 _ hS1 => W.bySize fun hsz => ?_)
  have e1 : va_up (fun j : Nat => (g (j : Int)).map (rho (CX.cm x))) (iI z).toNatClampNeg (some (CM.base (CX.cm x) + a)) = fun j : Nat => (upI g z (some a) (j : Int)).map (rho (CX.cm x)) := by
    funext j
    unfold va_up upI
    rw [iI_clamp hR]
    by_cases hj : j = z.toNat
    · rw [if_pos hj, if_pos (by omega), Option.map_some, rho_lt (Nat.lt_of_lt_of_le haq hW.1)]
    · rw [if_neg hj, if_neg (by omega)]
  rw [e1] at hP1
  have hP2 : va_P (CM.dC (CX.cm x), CM.dI (CX.cm x)) vwCl ((wl (CX.cm x) N σ).set q (CM.base (CX.cm x) + q, cE (rho (CX.cm x)) (CM.cy (CX.cm x)) (pcR t n (upI g z (some a))))) H1 := hP1
  rw [wl_set] at hP2
  exact kk ok H1 locs1 cells slots ls (hW.stored hq hP2 (by omega)) hS1 hL h1 h2
def cpI (f g : Int → Int) (sp dp n : Int) : Int → Int := fun k => if dp ≤ k ∧ k < dp + n then f (sp + (k - dp)) else g k
theorem P.copyI {i q0 q1 n0 n1 : Nat} {f g : Int → Int} {sp dp n : Int} (hd : decode (MI.cc M) pc = .ok (.invokestatic i, 3)) (hl : Cond.methodLink (MI.own M) i arraycopyName ∈ TW) (he0 : σ q0 = pcI 0 n0 f) (he1 : σ q1 = pcI 0 n1 g) (h1 : 0 ≤ sp) (h2 : 0 ≤ dp) (h3 : 0 ≤ n) (h4 : sp + n ≤ n0) (h5 : dp + n ≤ n1) (hn0 : n0 < 100000) (hn1 : n1 < 100000) (hdd : 1 ≤ d) (hst : sw st ≤ 8)
    (kk : P x d M Q b (pc + 3) L st N (up σ q1 (pcI 0 n1 (cpI f g sp dp n)))) : P x d M Q b pc L (vI n :: vI dp :: vR q1 :: vI sp :: vR q0 :: st) N σ := by
  intro ok H locs cells slots ls hW hS hL g1 g2
  obtain ⟨o1, o2, o3, o4, o5, o6, o7, o8, o9, o10, o11, o12, o13, o14⟩ := id ok
  have hq0 := hW.lt_a he0
  have hq1 := hW.lt_a he1
  have R1 : inR sp := ⟨by omega, by omega⟩
  have R2 : inR dp := ⟨by omega, by omega⟩
  have R3 : inR n := ⟨by omega, by omega⟩
  show W _ _ _ _ _ _ _ _ _ _ H locs cells slots _ (F0 _ pc ls (.int (iI n) :: .int (iI dp) :: .ref (rho (CX.cm x) q1) :: .int (iI sp) :: .ref (rho (CX.cm x) q0) :: _))
  rw [rho_lt (Nat.lt_of_lt_of_le hq0 hW.1), rho_lt (Nat.lt_of_lt_of_le hq1 hW.1)]
  have hat0 := wl_at (x := CX.cm x) (σ := σ) hq0
  rw [he0] at hat0
  have hat1 := wl_at (x := CX.cm x) (σ := σ) hq1
  rw [he1] at hat1
  have e9 : nativeFrameWords "java/lang/System" "arraycopy" 5 + 11 ≤ 28 := by decide +kernel
  refine va_copyi (ty := .int) (rest := st.map (cvx (CX.cm x))) o1 o2 (by rw [o3]; exact hL.1.symm) o6 (o8 _ hl) (o8 _ w_acN) (o8 _ w_acS) (o8 _ w_inS) o9.1 hW.2.2.1 wl_D hS q0 q1 0 0 hat0 hat1 rfl rfl rfl (fun h => by have := (iI_lt R1 inR_0).mp h; omega) (fun h => by have := (iI_lt R2 inR_0).mp h; omega) (fun h => by have := (iI_lt R3 inR_0).mp h; omega) (by rw [iI_clamp R1, iI_clamp R3]; omega) (by rw [iI_clamp R2, iI_clamp R3]; omega) (fun _ _ => rfl) (by omega) (by rw [sw_cv]; omega) hd (fun H1 locs1 hP1 _ hS1 => W.bySize fun hsz => ?_)
  have e1 : va_cpy (fun j : Nat => iI (f (j : Int))) (fun j : Nat => iI (g (j : Int))) (iI sp).toNatClampNeg (iI dp).toNatClampNeg (iI n).toNatClampNeg = fun j : Nat => iI (cpI f g sp dp n (j : Int)) := by
    funext j
    unfold va_cpy cpI
    rw [iI_clamp R1, iI_clamp R2, iI_clamp R3]
    by_cases hj : dp.toNat ≤ j ∧ j < dp.toNat + n.toNat
    · rw [if_pos hj, if_pos (by omega)]
      show iI (f ((sp.toNat + (j - dp.toNat) : Nat) : Int)) = iI (f (sp + ((j : Int) - dp)))
      rw [show ((sp.toNat + (j - dp.toNat) : Nat) : Int) = sp + ((j : Int) - dp) by omega]
    · rw [if_neg hj, if_neg (by omega)]
  rw [e1] at hP1
  have hP2 : va_P (CM.dC (CX.cm x), CM.dI (CX.cm x)) vwCl ((wl (CX.cm x) N σ).set q1 (CM.base (CX.cm x) + q1, cE (rho (CX.cm x)) (CM.cy (CX.cm x)) (pcI 0 n1 (cpI f g sp dp n)))) H1 := hP1
  rw [wl_set] at hP2
  exact kk ok H1 locs1 cells slots ls (hW.stored hq1 hP2 (by omega)) hS1 hL g1 g2
theorem P.objInit {i q : Nat} (hd : decode (MI.cc M) pc = .ok (.invokespecial i, 3)) (hl : Cond.methodLink (MI.own M) i objectInit ∈ TW) (hdd : 1 ≤ d) (hst : sw st ≤ 8) (kk : P x d M Q b (pc + 3) L st N σ) : P x d M Q b pc L (vR q :: st) N σ := by
  intro ok H locs cells slots ls hW hS hL h1 h2
  obtain ⟨o1, o2, o3, o4, o5, o6, o7, o8, o9, o10, o11, o12, o13, o14⟩ := id ok
  exact W.objInit (rest := st.map (cvx (CX.cm x))) o1 o2 o6 (o8 _ hl) (o8 _ w_oiI) (o8 _ w_oiC) rfl (hL.1.trans o3.symm) rfl hd (by omega) (by rw [show (F0 (CX.m x) pc ls ((vR q :: st).map (cvx (CX.cm x)))).monitorRoom = 0 from rfl, sw_cv]; omega) (kk ok H locs cells slots ls hW hS hL h1 h2)
theorem P.ldcS {i k : Nat} (hd : decode (MI.cc M) pc = .ok (.ldc i, 2)) (hM : MI.own M = RX1) (hk : (i = 50 ∧ k = 0) ∨ (i = 56 ∧ k = 1) ∨ (i = 58 ∧ k = 2) ∨ (i = 60 ∧ k = 3)) (kk : P x d M Q b (pc + 2) L (vR (1000 + k) :: st) N σ) : P x d M Q b pc L st N σ := by
  intro ok H locs cells slots ls hW hS hL h1 h2
  obtain ⟨o1, o2, o3, o4, o5, o6, o7, o8, o9, o10, o11, o12, o13, o14⟩ := id ok
  have hk2 := kk ok H locs cells slots ls hW hS hL h1 h2
  have e5 : (vR (1000 + k) :: st).map (cvx (CX.cm x)) = .ref (CM.adK (CX.cm x) k) :: st.map (cvx (CX.cm x)) := by
    show Value.ref (rho (CX.cm x) (1000 + k)) :: _ = _
    unfold rho
    rw [if_neg (by omega), if_pos (by omega), show 1000 + k - 1000 = k by omega]
  rw [e5] at hk2
  rw [hM] at o6
  obtain ⟨k1, k2, k3, k4⟩ := o9.2.2.2.2.1
  rcases hk with ⟨rfl, rfl⟩ | ⟨rfl, rfl⟩ | ⟨rfl, rfl⟩ | ⟨rfl, rfl⟩
  · exact va_ldcS o1 o2 o6 k1 hd hk2
  · exact va_ldcS o1 o2 o6 k2 hd hk2
  · exact va_ldcS o1 o2 o6 k3 hd hk2
  · exact va_ldcS o1 o2 o6 k4 hd hk2
end
end
section
/-- X6_isWay -/
theorem ct_X6_isWay {x : CM} {d N : Nat} {σ : PH} {Q : PQ} {a : Int} (ha : inR a) (ht : (a = 0 ∨ a = 1) → Q (some (vI 1)) σ) (hf : ¬ ((a = 0 ∨ a = 1)) → Q (some (vI 0)) σ) : Call x d 0 0 mX6_isWay [vI a] N σ Q := by
  refine Call.of mcX6_isWay (Nat.le_of_ble_eq_true rfl) (fun y hy => ?_)
  subst hy
  refine P.iload_n (dq dtX6_isWay 0 rfl) rfl ?_
  refine P.if_eq (t := 9) (dq dtX6_isWay 1 rfl) rfl (by omega) (fun c_1 => ?_) (fun c_1 => ?_)
  · refine P.iconst (dq dtX6_isWay 5 rfl) ?_
    refine P.goto (t := 14) (dq dtX6_isWay 6 rfl) rfl ?_
    refine P.zret (dq dtX6_isWay 8 rfl) rfl rfl (by decide) rfl ?_
    first | exact ht (by omega) | exact hf (by omega)
  · refine P.iload_n (dq dtX6_isWay 2 rfl) rfl ?_
    refine P.iconst (dq dtX6_isWay 3 rfl) ?_
    refine P.icmp_ne (t := 13) (dq dtX6_isWay 4 rfl) rfl (by omega) (by omega) (fun c_6 => ?_) (fun c_6 => ?_)
    · refine P.iconst (dq dtX6_isWay 7 rfl) ?_
      refine P.zret (dq dtX6_isWay 8 rfl) rfl rfl (by decide) rfl ?_
      first | exact ht (by omega) | exact hf (by omega)
    · refine P.iconst (dq dtX6_isWay 5 rfl) ?_
      refine P.goto (t := 14) (dq dtX6_isWay 6 rfl) rfl ?_
      refine P.zret (dq dtX6_isWay 8 rfl) rfl rfl (by decide) rfl ?_
      first | exact ht (by omega) | exact hf (by omega)
/-- X6_isPart -/
theorem ct_X6_isPart {x : CM} {d N : Nat} {σ : PH} {Q : PQ} {a : Int} (ha : inR a) (ht : (a = 0 ∨ a = 1) → Q (some (vI 1)) σ) (hf : ¬ ((a = 0 ∨ a = 1)) → Q (some (vI 0)) σ) : Call x d 0 0 mX6_isPart [vI a] N σ Q := by
  refine Call.of mcX6_isPart (Nat.le_of_ble_eq_true rfl) (fun y hy => ?_)
  subst hy
  refine P.iload_n (dq dtX6_isPart 0 rfl) rfl ?_
  refine P.if_eq (t := 9) (dq dtX6_isPart 1 rfl) rfl (by omega) (fun c_1 => ?_) (fun c_1 => ?_)
  · refine P.iconst (dq dtX6_isPart 5 rfl) ?_
    refine P.goto (t := 14) (dq dtX6_isPart 6 rfl) rfl ?_
    refine P.zret (dq dtX6_isPart 8 rfl) rfl rfl (by decide) rfl ?_
    first | exact ht (by omega) | exact hf (by omega)
  · refine P.iload_n (dq dtX6_isPart 2 rfl) rfl ?_
    refine P.iconst (dq dtX6_isPart 3 rfl) ?_
    refine P.icmp_ne (t := 13) (dq dtX6_isPart 4 rfl) rfl (by omega) (by omega) (fun c_6 => ?_) (fun c_6 => ?_)
    · refine P.iconst (dq dtX6_isPart 7 rfl) ?_
      refine P.zret (dq dtX6_isPart 8 rfl) rfl rfl (by decide) rfl ?_
      first | exact ht (by omega) | exact hf (by omega)
    · refine P.iconst (dq dtX6_isPart 5 rfl) ?_
      refine P.goto (t := 14) (dq dtX6_isPart 6 rfl) rfl ?_
      refine P.zret (dq dtX6_isPart 8 rfl) rfl rfl (by decide) rfl ?_
      first | exact ht (by omega) | exact hf (by omega)
/-- X6_isLabel -/
theorem ct_X6_isLabel {x : CM} {d N : Nat} {σ : PH} {Q : PQ} {a : Int} (ha : inR a) (ht : (0 ≤ a ∧ a < 3) → Q (some (vI 1)) σ) (hf : ¬ ((0 ≤ a ∧ a < 3)) → Q (some (vI 0)) σ) : Call x d 0 0 mX6_isLabel [vI a] N σ Q := by
  refine Call.of mcX6_isLabel (Nat.le_of_ble_eq_true rfl) (fun y hy => ?_)
  subst hy
  refine P.iload_n (dq dtX6_isLabel 0 rfl) rfl ?_
  refine P.if_lt (t := 13) (dq dtX6_isLabel 1 rfl) rfl (by omega) (fun c_1 => ?_) (fun c_1 => ?_)
  · refine P.iconst (dq dtX6_isLabel 7 rfl) ?_
    refine P.zret (dq dtX6_isLabel 8 rfl) rfl rfl (by decide) rfl ?_
    first | exact ht (by omega) | exact hf (by omega)
  · refine P.iload_n (dq dtX6_isLabel 2 rfl) rfl ?_
    refine P.iconst (dq dtX6_isLabel 3 rfl) ?_
    refine P.icmp_ge (t := 13) (dq dtX6_isLabel 4 rfl) rfl (by omega) (by omega) (fun c_6 => ?_) (fun c_6 => ?_)
    · refine P.iconst (dq dtX6_isLabel 7 rfl) ?_
      refine P.zret (dq dtX6_isLabel 8 rfl) rfl rfl (by decide) rfl ?_
      first | exact ht (by omega) | exact hf (by omega)
    · refine P.iconst (dq dtX6_isLabel 5 rfl) ?_
      refine P.goto (t := 14) (dq dtX6_isLabel 6 rfl) rfl ?_
      refine P.zret (dq dtX6_isLabel 8 rfl) rfl rfl (by decide) rfl ?_
      first | exact ht (by omega) | exact hf (by omega)
/-- X6_isDigit -/
theorem ct_X6_isDigit {x : CM} {d N : Nat} {σ : PH} {Q : PQ} {a : Int} (ha : inR a) (ht : (48 ≤ a ∧ a ≤ 57) → Q (some (vI 1)) σ) (hf : ¬ ((48 ≤ a ∧ a ≤ 57)) → Q (some (vI 0)) σ) : Call x d 0 0 mX6_isDigit [vI a] N σ Q := by
  refine Call.of mcX6_isDigit (Nat.le_of_ble_eq_true rfl) (fun y hy => ?_)
  subst hy
  refine P.iload_n (dq dtX6_isDigit 0 rfl) rfl ?_
  refine P.bipush (dq dtX6_isDigit 1 rfl) rfl ?_
  refine P.icmp_lt (t := 16) (dq dtX6_isDigit 2 rfl) rfl (by omega) (by omega) (fun c_3 => ?_) (fun c_3 => ?_)
  · refine P.iconst (dq dtX6_isDigit 8 rfl) ?_
    refine P.zret (dq dtX6_isDigit 9 rfl) rfl rfl (by decide) rfl ?_
    first | exact ht (by omega) | exact hf (by omega)
  · refine P.iload_n (dq dtX6_isDigit 3 rfl) rfl ?_
    refine P.bipush (dq dtX6_isDigit 4 rfl) rfl ?_
    refine P.icmp_gt (t := 16) (dq dtX6_isDigit 5 rfl) rfl (by omega) (by omega) (fun c_9 => ?_) (fun c_9 => ?_)
    · refine P.iconst (dq dtX6_isDigit 8 rfl) ?_
      refine P.zret (dq dtX6_isDigit 9 rfl) rfl rfl (by decide) rfl ?_
      first | exact ht (by omega) | exact hf (by omega)
    · refine P.iconst (dq dtX6_isDigit 6 rfl) ?_
      refine P.goto (t := 17) (dq dtX6_isDigit 7 rfl) rfl ?_
      refine P.zret (dq dtX6_isDigit 9 rfl) rfl rfl (by decide) rfl ?_
      first | exact ht (by omega) | exact hf (by omega)
/-- X6_isSmallLetter -/
theorem ct_X6_isSmallLetter {x : CM} {d N : Nat} {σ : PH} {Q : PQ} {a : Int} (ha : inR a) (ht : (97 ≤ a ∧ a ≤ 122) → Q (some (vI 1)) σ) (hf : ¬ ((97 ≤ a ∧ a ≤ 122)) → Q (some (vI 0)) σ) : Call x d 0 0 mX6_isSmallLetter [vI a] N σ Q := by
  refine Call.of mcX6_isSmallLetter (Nat.le_of_ble_eq_true rfl) (fun y hy => ?_)
  subst hy
  refine P.iload_n (dq dtX6_isSmallLetter 0 rfl) rfl ?_
  refine P.bipush (dq dtX6_isSmallLetter 1 rfl) rfl ?_
  refine P.icmp_lt (t := 16) (dq dtX6_isSmallLetter 2 rfl) rfl (by omega) (by omega) (fun c_3 => ?_) (fun c_3 => ?_)
  · refine P.iconst (dq dtX6_isSmallLetter 8 rfl) ?_
    refine P.zret (dq dtX6_isSmallLetter 9 rfl) rfl rfl (by decide) rfl ?_
    first | exact ht (by omega) | exact hf (by omega)
  · refine P.iload_n (dq dtX6_isSmallLetter 3 rfl) rfl ?_
    refine P.bipush (dq dtX6_isSmallLetter 4 rfl) rfl ?_
    refine P.icmp_gt (t := 16) (dq dtX6_isSmallLetter 5 rfl) rfl (by omega) (by omega) (fun c_9 => ?_) (fun c_9 => ?_)
    · refine P.iconst (dq dtX6_isSmallLetter 8 rfl) ?_
      refine P.zret (dq dtX6_isSmallLetter 9 rfl) rfl rfl (by decide) rfl ?_
      first | exact ht (by omega) | exact hf (by omega)
    · refine P.iconst (dq dtX6_isSmallLetter 6 rfl) ?_
      refine P.goto (t := 17) (dq dtX6_isSmallLetter 7 rfl) rfl ?_
      refine P.zret (dq dtX6_isSmallLetter 9 rfl) rfl rfl (by decide) rfl ?_
      first | exact ht (by omega) | exact hf (by omega)
/-- X7_in -/
theorem ct_X7_in {x : CM} {d N : Nat} {σ : PH} {Q : PQ} {a lo hi : Int} (ha : inR a) (hlo : inR lo) (hhi : inR hi) (ht : (lo ≤ a ∧ a ≤ hi) → Q (some (vI 1)) σ) (hf : ¬ ((lo ≤ a ∧ a ≤ hi)) → Q (some (vI 0)) σ) : Call x d 0 0 mX7_in [vL a, vL lo, vL hi] N σ Q := by
  refine Call.of mcX7_in (Nat.le_of_ble_eq_true rfl) (fun y hy => ?_)
  subst hy
  refine P.lload_n (dq dtX7_in 0 rfl) rfl ?_
  refine P.lload_n (dq dtX7_in 1 rfl) rfl ?_
  refine P.lcmp (dq dtX7_in 2 rfl) ha hlo ?_
  refine P.if_lt (t := 17) (dq dtX7_in 3 rfl) rfl (by split <;> (try split) <;> decide) (fun c_3 => ?_) (fun c_3 => ?_)
  · refine P.iconst (dq dtX7_in 10 rfl) ?_
    refine P.zret (dq dtX7_in 11 rfl) rfl rfl (by decide) rfl ?_
    first | exact ht (by constructor <;> (by_cases q1 : lo < a <;> by_cases q2 : a = lo <;> by_cases q3 : hi < a <;> simp_all <;> omega)) | exact hf (by by_cases q1 : lo < a <;> by_cases q2 : a = lo <;> by_cases q3 : hi < a <;> by_cases q4 : a = hi <;> simp_all <;> omega)
  · refine P.lload_n (dq dtX7_in 4 rfl) rfl ?_
    refine P.lload (dq dtX7_in 5 rfl) rfl ?_
    refine P.lcmp (dq dtX7_in 6 rfl) ha hhi ?_
    refine P.if_gt (t := 17) (dq dtX7_in 7 rfl) rfl (by split <;> (try split) <;> decide) (fun c_10 => ?_) (fun c_10 => ?_)
    · refine P.iconst (dq dtX7_in 10 rfl) ?_
      refine P.zret (dq dtX7_in 11 rfl) rfl rfl (by decide) rfl ?_
      first | exact ht (by constructor <;> (by_cases q1 : lo < a <;> by_cases q2 : a = lo <;> by_cases q3 : hi < a <;> simp_all <;> omega)) | exact hf (by by_cases q1 : lo < a <;> by_cases q2 : a = lo <;> by_cases q3 : hi < a <;> by_cases q4 : a = hi <;> simp_all <;> omega)
    · refine P.iconst (dq dtX7_in 8 rfl) ?_
      refine P.goto (t := 18) (dq dtX7_in 9 rfl) rfl ?_
      refine P.zret (dq dtX7_in 11 rfl) rfl rfl (by decide) rfl ?_
      first | exact ht (by constructor <;> (by_cases q1 : lo < a <;> by_cases q2 : a = lo <;> by_cases q3 : hi < a <;> simp_all <;> omega)) | exact hf (by by_cases q1 : lo < a <;> by_cases q2 : a = lo <;> by_cases q3 : hi < a <;> by_cases q4 : a = hi <;> simp_all <;> omega)
/-- X7_isWay -/
theorem ct_X7_isWay {x : CM} {d N : Nat} {σ : PH} {Q : PQ} {a : Int} (hd : 1 ≤ d) (ha : inR a) (ht : (0 ≤ a ∧ a ≤ 1) → Q (some (vI 1)) σ) (hf : ¬ ((0 ≤ a ∧ a ≤ 1)) → Q (some (vI 0)) σ) : Call x d 0 0 mX7_isWay [vI a] N σ Q := by
  refine Call.of mcX7_isWay (Nat.le_of_ble_eq_true rfl) (fun y hy => ?_)
  subst hy
  refine P.iload_n (dq dtX7_isWay 0 rfl) rfl ?_
  refine P.i2l (dq dtX7_isWay 1 rfl) (by omega) ?_
  refine P.lconst (z := 0) (dq dtX7_isWay 2 rfl) rfl ?_
  refine P.lconst (z := 1) (dq dtX7_isWay 3 rfl) rfl ?_
  refine P.callS3 (M' := mX7_in) (d' := d - 1) mlX7_65 mcX7_in msX7_in (dq dtX7_isWay 4 rfl) (by omega) (Nat.le_of_ble_eq_true rfl) ?_
  refine ct_X7_in (by omega) (by omega) (by omega) (fun n_4 => ?_) (fun n_4 => ?_)
  · refine P.zret (dq dtX7_isWay 5 rfl) rfl rfl (by decide) rfl ?_
    first | exact ht (by omega) | exact hf (by omega)
  · refine P.zret (dq dtX7_isWay 5 rfl) rfl rfl (by decide) rfl ?_
    first | exact ht (by omega) | exact hf (by omega)
/-- X7_isErr -/
theorem ct_X7_isErr {x : CM} {d N : Nat} {σ : PH} {Q : PQ} {a : Int} (hd : 1 ≤ d) (ha : inR a) (ht : (-40 ≤ a ∧ a ≤ 40) → Q (some (vI 1)) σ) (hf : ¬ ((-40 ≤ a ∧ a ≤ 40)) → Q (some (vI 0)) σ) : Call x d 0 0 mX7_isErr [vI a] N σ Q := by
  refine Call.of mcX7_isErr (Nat.le_of_ble_eq_true rfl) (fun y hy => ?_)
  subst hy
  refine P.iload_n (dq dtX7_isErr 0 rfl) rfl ?_
  refine P.i2l (dq dtX7_isErr 1 rfl) (by omega) ?_
  refine P.ldc2 (n := -40) (dq dtX7_isErr 2 rfl) kcX7_69 rfl ?_
  refine P.ldc2 (n := 40) (dq dtX7_isErr 3 rfl) kcX7_71 rfl ?_
  refine P.callS3 (M' := mX7_in) (d' := d - 1) mlX7_65 mcX7_in msX7_in (dq dtX7_isErr 4 rfl) (by omega) (Nat.le_of_ble_eq_true rfl) ?_
  refine ct_X7_in (by omega) (by omega) (by omega) (fun n_8 => ?_) (fun n_8 => ?_)
  · refine P.zret (dq dtX7_isErr 5 rfl) rfl rfl (by decide) rfl ?_
    first | exact ht (by omega) | exact hf (by omega)
  · refine P.zret (dq dtX7_isErr 5 rfl) rfl rfl (by decide) rfl ?_
    first | exact ht (by omega) | exact hf (by omega)
/-- X7_isLabel -/
theorem ct_X7_isLabel {x : CM} {d N : Nat} {σ : PH} {Q : PQ} {a : Int} (hd : 1 ≤ d) (ha : inR a) (ht : (0 ≤ a ∧ a ≤ 2) → Q (some (vI 1)) σ) (hf : ¬ ((0 ≤ a ∧ a ≤ 2)) → Q (some (vI 0)) σ) : Call x d 0 0 mX7_isLabel [vI a] N σ Q := by
  refine Call.of mcX7_isLabel (Nat.le_of_ble_eq_true rfl) (fun y hy => ?_)
  subst hy
  refine P.iload_n (dq dtX7_isLabel 0 rfl) rfl ?_
  refine P.i2l (dq dtX7_isLabel 1 rfl) (by omega) ?_
  refine P.lconst (z := 0) (dq dtX7_isLabel 2 rfl) rfl ?_
  refine P.ldc2 (n := 2) (dq dtX7_isLabel 3 rfl) kcX7_196 rfl ?_
  refine P.callS3 (M' := mX7_in) (d' := d - 1) mlX7_65 mcX7_in msX7_in (dq dtX7_isLabel 4 rfl) (by omega) (Nat.le_of_ble_eq_true rfl) ?_
  refine ct_X7_in (by omega) (by omega) (by omega) (fun n_6 => ?_) (fun n_6 => ?_)
  · refine P.zret (dq dtX7_isLabel 5 rfl) rfl rfl (by decide) rfl ?_
    first | exact ht (by omega) | exact hf (by omega)
  · refine P.zret (dq dtX7_isLabel 5 rfl) rfl rfl (by decide) rfl ?_
    first | exact ht (by omega) | exact hf (by omega)
/-- X7_isSmall -/
theorem ct_X7_isSmall {x : CM} {d N : Nat} {σ : PH} {Q : PQ} {a : Int} (hd : 1 ≤ d) (ha : inR a) (ht : (97 ≤ a ∧ a ≤ 122) → Q (some (vI 1)) σ) (hf : ¬ ((97 ≤ a ∧ a ≤ 122)) → Q (some (vI 0)) σ) : Call x d 0 0 mX7_isSmall [vI a] N σ Q := by
  refine Call.of mcX7_isSmall (Nat.le_of_ble_eq_true rfl) (fun y hy => ?_)
  subst hy
  refine P.iload_n (dq dtX7_isSmall 0 rfl) rfl ?_
  refine P.i2l (dq dtX7_isSmall 1 rfl) (by omega) ?_
  refine P.ldc2 (n := 97) (dq dtX7_isSmall 2 rfl) kcX7_80 rfl ?_
  refine P.ldc2 (n := 122) (dq dtX7_isSmall 3 rfl) kcX7_82 rfl ?_
  refine P.callS3 (M' := mX7_in) (d' := d - 1) mlX7_65 mcX7_in msX7_in (dq dtX7_isSmall 4 rfl) (by omega) (Nat.le_of_ble_eq_true rfl) ?_
  refine ct_X7_in (by omega) (by omega) (by omega) (fun n_8 => ?_) (fun n_8 => ?_)
  · refine P.zret (dq dtX7_isSmall 5 rfl) rfl rfl (by decide) rfl ?_
    first | exact ht (by omega) | exact hf (by omega)
  · refine P.zret (dq dtX7_isSmall 5 rfl) rfl rfl (by decide) rfl ?_
    first | exact ht (by omega) | exact hf (by omega)
/-- X7_isDigit -/
theorem ct_X7_isDigit {x : CM} {d N : Nat} {σ : PH} {Q : PQ} {a : Int} (hd : 1 ≤ d) (ha : inR a) (ht : (48 ≤ a ∧ a ≤ 57) → Q (some (vI 1)) σ) (hf : ¬ ((48 ≤ a ∧ a ≤ 57)) → Q (some (vI 0)) σ) : Call x d 0 0 mX7_isDigit [vI a] N σ Q := by
  refine Call.of mcX7_isDigit (Nat.le_of_ble_eq_true rfl) (fun y hy => ?_)
  subst hy
  refine P.iload_n (dq dtX7_isDigit 0 rfl) rfl ?_
  refine P.i2l (dq dtX7_isDigit 1 rfl) (by omega) ?_
  refine P.ldc2 (n := 48) (dq dtX7_isDigit 2 rfl) kcX7_84 rfl ?_
  refine P.ldc2 (n := 57) (dq dtX7_isDigit 3 rfl) kcX7_86 rfl ?_
  refine P.callS3 (M' := mX7_in) (d' := d - 1) mlX7_65 mcX7_in msX7_in (dq dtX7_isDigit 4 rfl) (by omega) (Nat.le_of_ble_eq_true rfl) ?_
  refine ct_X7_in (by omega) (by omega) (by omega) (fun n_8 => ?_) (fun n_8 => ?_)
  · refine P.zret (dq dtX7_isDigit 5 rfl) rfl rfl (by decide) rfl ?_
    first | exact ht (by omega) | exact hf (by omega)
  · refine P.zret (dq dtX7_isDigit 5 rfl) rfl rfl (by decide) rfl ?_
    first | exact ht (by omega) | exact hf (by omega)
/-- Math.max -/
theorem ct_max {x : CM} {d N : Nat} {σ : PH} {Q : PQ} {a c : Int} (ha : inR a) (hc : inR c) (h1 : c ≤ a → Q (some (vI a)) σ) (h2 : a < c → Q (some (vI c)) σ) : Call x d 0 0 mJ9_max_7cf53 [vI a, vI c] N σ Q := by
  refine Call.of mcJ9_max_7cf53 (Nat.le_of_ble_eq_true rfl) (fun y hy => ?_)
  subst hy
  refine P.iload_n (dq dtJ9_max_7cf53 0 rfl) rfl ?_
  refine P.iload_n (dq dtJ9_max_7cf53 1 rfl) rfl ?_
  refine P.icmp_lt (t := 9) (dq dtJ9_max_7cf53 2 rfl) rfl (by omega) (by omega) (fun c_2 => ?_) (fun c_2 => ?_)
  · refine P.iload_n (dq dtJ9_max_7cf53 5 rfl) rfl ?_
    refine P.iret (dq dtJ9_max_7cf53 6 rfl) rfl rfl rfl ?_
    first | exact h1 (by omega) | exact h2 (by omega)
  · refine P.iload_n (dq dtJ9_max_7cf53 3 rfl) rfl ?_
    refine P.goto (t := 10) (dq dtJ9_max_7cf53 4 rfl) rfl ?_
    refine P.iret (dq dtJ9_max_7cf53 6 rfl) rfl rfl rfl ?_
    first | exact h1 (by omega) | exact h2 (by omega)
/-- Math.min -/
theorem ct_min {x : CM} {d N : Nat} {σ : PH} {Q : PQ} {a c : Int} (ha : inR a) (hc : inR c) (h1 : a ≤ c → Q (some (vI a)) σ) (h2 : c < a → Q (some (vI c)) σ) : Call x d 0 0 mJ9_min_7cf53 [vI a, vI c] N σ Q := by
  refine Call.of mcJ9_min_7cf53 (Nat.le_of_ble_eq_true rfl) (fun y hy => ?_)
  subst hy
  refine P.iload_n (dq dtJ9_min_7cf53 0 rfl) rfl ?_
  refine P.iload_n (dq dtJ9_min_7cf53 1 rfl) rfl ?_
  refine P.icmp_gt (t := 9) (dq dtJ9_min_7cf53 2 rfl) rfl (by omega) (by omega) (fun c_2 => ?_) (fun c_2 => ?_)
  · refine P.iload_n (dq dtJ9_min_7cf53 5 rfl) rfl ?_
    refine P.iret (dq dtJ9_min_7cf53 6 rfl) rfl rfl rfl ?_
    first | exact h1 (by omega) | exact h2 (by omega)
  · refine P.iload_n (dq dtJ9_min_7cf53 3 rfl) rfl ?_
    refine P.goto (t := 10) (dq dtJ9_min_7cf53 4 rfl) rfl ?_
    refine P.iret (dq dtJ9_min_7cf53 6 rfl) rfl rfl rfl ?_
    first | exact h1 (by omega) | exact h2 (by omega)
/-- Math.abs -/
theorem ct_abs {x : CM} {d N : Nat} {σ : PH} {Q : PQ} {a : Int} (ha : inR a) (h1 : 0 ≤ a → Q (some (vI a)) σ) (h2 : a < 0 → Q (some (vI (-a))) σ) : Call x d 0 0 mJ9_abs_0f7a4 [vI a] N σ Q := by
  refine Call.of mcJ9_abs_0f7a4 (Nat.le_of_ble_eq_true rfl) (fun y hy => ?_)
  subst hy
  refine P.iload_n (dq dtJ9_abs_0f7a4 0 rfl) rfl ?_
  refine P.if_ge (t := 9) (dq dtJ9_abs_0f7a4 1 rfl) rfl (by omega) (fun c_1 => ?_) (fun c_1 => ?_)
  · refine P.iload_n (dq dtJ9_abs_0f7a4 5 rfl) rfl ?_
    refine P.iret (dq dtJ9_abs_0f7a4 6 rfl) rfl rfl rfl ?_
    first | exact h1 (by omega) | exact h2 (by omega)
  · refine P.iload_n (dq dtJ9_abs_0f7a4 2 rfl) rfl ?_
    refine P.ineg (dq dtJ9_abs_0f7a4 3 rfl) ?_
    refine P.goto (t := 10) (dq dtJ9_abs_0f7a4 4 rfl) rfl ?_
    refine P.iret (dq dtJ9_abs_0f7a4 6 rfl) rfl rfl rfl ?_
    first | exact h1 (by omega) | exact h2 (by omega)
end
section
/-- a heap beside another: nothing else has changed -/
def Fr (σ σ' : PH) (S : List Nat) : Prop := ∀ j : Nat, j ∉ S → σ' j = σ j
theorem Fr.rf {σ : PH} {S : List Nat} : Fr σ σ S := fun _ _ => rfl
theorem Fr.trans {σ σ' σ'' : PH} {S : List Nat} (h1 : Fr σ σ' S) (h2 : Fr σ' σ'' S) : Fr σ σ'' S := fun j hj => (h2 j hj).trans (h1 j hj)
theorem Fr.wide {σ σ' : PH} {S S' : List Nat} (h : Fr σ σ' S) (hs : ∀ j ∈ S, j ∈ S') : Fr σ σ' S' := fun j hj => h j (fun hm => hj (hs j hm))
theorem Fr.up {σ σ' : PH} {S : List Nat} {q : Nat} {e : PC} (h : Fr σ σ' S) (hq : q ∈ S) : Fr σ (up σ' q e) S := fun j hj => (up_n (j := j) (q := q) (fun he => hj (by rw [he]; exact hq))).trans (h j hj)
theorem ne_oI {σ : PH} {q a ci t n : Nat} {fs : List Value} {f : Int → Int} (h1 : σ q = pcO ci fs) (h2 : σ a = pcI t n f) : q ≠ a := by
  intro h; rw [h, h2] at h1; cases h1
theorem ne_oR {σ : PH} {q a ci t n : Nat} {fs : List Value} {f : Int → Option Nat} (h1 : σ q = pcO ci fs) (h2 : σ a = pcR t n f) : q ≠ a := by
  intro h; rw [h, h2] at h1; cases h1
theorem ne_oo {σ : PH} {q a ci cj : Nat} {fs gs : List Value} (h1 : σ q = pcO ci fs) (h2 : σ a = pcO cj gs) (hc : ci ≠ cj) : q ≠ a := by
  intro h; rw [h, h2] at h1; cases h1; exact hc rfl
theorem ne_IR {σ : PH} {q a t n t' n' : Nat} {f : Int → Int} {g : Int → Option Nat} (h1 : σ q = pcI t n f) (h2 : σ a = pcR t' n' g) : q ≠ a := by
  intro h; rw [h, h2] at h1; cases h1
section
variable {x : CX} {d : Nat} {M : MI} {Q : PQ} {b : Nat × Nat} {pc : Nat} {L : List (Option Value)} {st : List Value} {N : Nat} {σ : PH}
theorem xor_neg {a c : Int} (ha : inR a) (hc : inR c) : (iI a ^^^ iI c).toInt < 0 ↔ ¬ (a < 0 ↔ c < 0) := by
  have key : ∀ z : Int32, z.toInt < 0 ↔ z.toBitVec.msb = true := by
    intro z
    rw [← Int32.toInt_toBitVec, BitVec.msb_eq_toInt]
    simp
  rw [key, Int32.toBitVec_xor, BitVec.msb_xor]
  have h1 := key (iI a)
  have h2 := key (iI c)
  rw [iI_toInt ha] at h1
  rw [iI_toInt hc] at h2
  cases q1 : (iI a).toBitVec.msb <;> cases q2 : (iI c).toBitVec.msb <;> simp_all <;> omega
theorem P.ixor {a c : Int} (hd : decode (MI.cc M) pc = .ok (.ixor, 1)) (ha : inR a) (hc : inR c) (k : ∀ z : Int, inR z → (z < 0 ↔ ¬ (a < 0 ↔ c < 0)) → P x d M Q b (pc + 1) L (vI z :: st) N σ) : P x d M Q b pc L (vI c :: vI a :: st) N σ :=
  fun ok H locs cells slots ls hW hS hL h1 h2 => lv_ixor ok.1 ok.2.1 hd (by
    have hk := k (iI a ^^^ iI c).toInt (inR_toInt _) (xor_neg ha hc) ok H locs cells slots ls hW hS hL h1 h2
    have e : vI (iI a ^^^ iI c).toInt = .int (iI a ^^^ iI c) := by unfold vI; rw [iI_of]
    rw [e] at hk
    exact hk)
end
end
section
/-- Letters.at -/
theorem ct_X1_at {x : CM} {d N : Nat} {σ : PH} {Q : PQ} {q a r : Nat} {n : Int} {f : Int → Int} (hq : σ q = pcO 1 [vR a, vI n]) (ha : σ a = pcI 0 r f) (hn : 0 ≤ n ∧ n ≤ r ∧ r < 1000) {k : Int} (hk : inR k) (h1 : 0 ≤ k ∧ k < n → Q (some (vI (f k))) σ) (h2 : ¬ (0 ≤ k ∧ k < n) → Q (some (vI (-1))) σ) : Call x d 0 0 mX1_at [vR q, vI k] N σ Q := by
  refine Call.of mcX1_at (Nat.le_of_ble_eq_true rfl) (fun y hy => ?_)
  subst hy
  refine P.iload_n (dq dtX1_at 0 rfl) rfl ?_
  refine P.if_lt (t := 21) (dq dtX1_at 1 rfl) rfl (by omega) (fun c_1 => ?_) (fun c_1 => ?_)
  · refine P.iconst (dq dtX1_at 11 rfl) ?_
    refine P.iret (dq dtX1_at 12 rfl) rfl rfl rfl ?_
    first | exact h (by omega) | exact h1 (by omega) | exact h2 (by omega) | (exfalso; omega)
  · refine P.iload_n (dq dtX1_at 2 rfl) rfl ?_
    refine P.aload_n (dq dtX1_at 3 rfl) rfl ?_
    refine P.get flX1_9 (dq dtX1_at 4 rfl) (by repeat (first | assumption | exact up_s | rw [up_n (by first | assumption | (apply Ne.symm; assumption) | decide | omega)])) (by rfl) ?_
    refine P.icmp_ge (t := 21) (dq dtX1_at 5 rfl) rfl (by omega) (by omega) (fun c_9 => ?_) (fun c_9 => ?_)
    · refine P.iconst (dq dtX1_at 11 rfl) ?_
      refine P.iret (dq dtX1_at 12 rfl) rfl rfl rfl ?_
      first | exact h (by omega) | exact h1 (by omega) | exact h2 (by omega) | (exfalso; omega)
    · refine P.aload_n (dq dtX1_at 6 rfl) rfl ?_
      refine P.get flX1_21 (dq dtX1_at 7 rfl) (by repeat (first | assumption | exact up_s | rw [up_n (by first | assumption | (apply Ne.symm; assumption) | decide | omega)])) (by rfl) ?_
      refine P.iload_n (dq dtX1_at 8 rfl) rfl ?_
      refine P.iald (dq dtX1_at 9 rfl) (by repeat (first | assumption | exact up_s | rw [up_n (by first | assumption | (apply Ne.symm; assumption) | decide | omega)])) (by omega) (by omega) (by omega) ?_
      refine P.goto (t := 22) (dq dtX1_at 10 rfl) rfl ?_
      refine P.iret (dq dtX1_at 12 rfl) rfl rfl rfl ?_
      first | exact h (by omega) | exact h1 (by omega) | exact h2 (by omega) | (exfalso; omega)
/-- Letters.hasRoomFor -/
theorem ct_X1_hasRoomFor {x : CM} {d N : Nat} {σ : PH} {Q : PQ} {q a r : Nat} {n : Int} {f : Int → Int} (hq : σ q = pcO 1 [vR a, vI n]) (ha : σ a = pcI 0 r f) (hn : 0 ≤ n ∧ n ≤ r ∧ r < 1000) {k : Int} (hk : -1000000 < k ∧ k < 1000000) (ht : n + k ≤ r → Q (some (vI 1)) σ) (hf : ¬ (n + k ≤ r) → Q (some (vI 0)) σ) : Call x d 0 0 mX1_hasRoomFor [vR q, vI k] N σ Q := by
  refine Call.of mcX1_hasRoomFor (Nat.le_of_ble_eq_true rfl) (fun y hy => ?_)
  subst hy
  refine P.aload_n (dq dtX1_hasRoomFor 0 rfl) rfl ?_
  refine P.get flX1_9 (dq dtX1_hasRoomFor 1 rfl) (by repeat (first | assumption | exact up_s | rw [up_n (by first | assumption | (apply Ne.symm; assumption) | decide | omega)])) (by rfl) ?_
  refine P.iload_n (dq dtX1_hasRoomFor 2 rfl) rfl ?_
  refine P.iadd (dq dtX1_hasRoomFor 3 rfl) ?_
  refine P.aload_n (dq dtX1_hasRoomFor 4 rfl) rfl ?_
  refine P.get flX1_21 (dq dtX1_hasRoomFor 5 rfl) (by repeat (first | assumption | exact up_s | rw [up_n (by first | assumption | (apply Ne.symm; assumption) | decide | omega)])) (by rfl) ?_
  refine P.alen (dq dtX1_hasRoomFor 6 rfl) (by repeat (first | assumption | exact up_s | rw [up_n (by first | assumption | (apply Ne.symm; assumption) | decide | omega)])) (by decide) ?_
  refine P.icmp_gt (t := 18) (dq dtX1_hasRoomFor 7 rfl) rfl (by omega) (by omega) (fun c_11 => ?_) (fun c_11 => ?_)
  · refine P.iconst (dq dtX1_hasRoomFor 10 rfl) ?_
    refine P.zret (dq dtX1_hasRoomFor 11 rfl) rfl rfl (by decide) rfl ?_
    first | exact ht (by omega) | exact hf (by omega)
  · refine P.iconst (dq dtX1_hasRoomFor 8 rfl) ?_
    refine P.goto (t := 19) (dq dtX1_hasRoomFor 9 rfl) rfl ?_
    refine P.zret (dq dtX1_hasRoomFor 11 rfl) rfl rfl (by decide) rfl ?_
    first | exact ht (by omega) | exact hf (by omega)
/-- Measured.hasPoint -/
theorem ct_X2_hasPoint {x : CM} {d N : Nat} {σ : PH} {Q : PQ} {q c e : Nat} {p s : Int} (hq : σ q = pcO 2 [vI p, vI s, vR c, vR e]) (hp : 0 ≤ p ∧ p ≤ 8) {k : Int} (hk : inR k) (ht : 0 ≤ k ∧ k < p → Q (some (vI 1)) σ) (hf : ¬ (0 ≤ k ∧ k < p) → Q (some (vI 0)) σ) : Call x d 0 0 mX2_hasPoint [vR q, vI k] N σ Q := by
  refine Call.of mcX2_hasPoint (Nat.le_of_ble_eq_true rfl) (fun y hy => ?_)
  subst hy
  refine P.iload_n (dq dtX2_hasPoint 0 rfl) rfl ?_
  refine P.if_lt (t := 16) (dq dtX2_hasPoint 1 rfl) rfl (by omega) (fun c_1 => ?_) (fun c_1 => ?_)
  · refine P.iconst (dq dtX2_hasPoint 8 rfl) ?_
    refine P.zret (dq dtX2_hasPoint 9 rfl) rfl rfl (by decide) rfl ?_
    first | exact ht (by omega) | exact hf (by omega)
  · refine P.iload_n (dq dtX2_hasPoint 2 rfl) rfl ?_
    refine P.aload_n (dq dtX2_hasPoint 3 rfl) rfl ?_
    refine P.get flX2_9 (dq dtX2_hasPoint 4 rfl) (by repeat (first | assumption | exact up_s | rw [up_n (by first | assumption | (apply Ne.symm; assumption) | decide | omega)])) (by rfl) ?_
    refine P.icmp_ge (t := 16) (dq dtX2_hasPoint 5 rfl) rfl (by omega) (by omega) (fun c_9 => ?_) (fun c_9 => ?_)
    · refine P.iconst (dq dtX2_hasPoint 8 rfl) ?_
      refine P.zret (dq dtX2_hasPoint 9 rfl) rfl rfl (by decide) rfl ?_
      first | exact ht (by omega) | exact hf (by omega)
    · refine P.iconst (dq dtX2_hasPoint 6 rfl) ?_
      refine P.goto (t := 17) (dq dtX2_hasPoint 7 rfl) rfl ?_
      refine P.zret (dq dtX2_hasPoint 9 rfl) rfl rfl (by decide) rfl ?_
      first | exact ht (by omega) | exact hf (by omega)
/-- Measured.slotOf -/
theorem ct_X2_slotOf {x : CM} {d N : Nat} {σ : PH} {Q : PQ} {q c e : Nat} {p s : Int} (hq : σ q = pcO 2 [vI p, vI s, vR c, vR e]) (hp : 0 ≤ p ∧ p ≤ 8) {k w : Int} (hk : inR k) (hw : inR w) (h1 : (0 ≤ k ∧ k < p) ∧ 0 ≤ w ∧ w < 2 → Q (some (vI (k * 2 + w))) σ) (h2 : ¬ ((0 ≤ k ∧ k < p) ∧ 0 ≤ w ∧ w < 2) → Q (some (vI (-1))) σ) : Call x d 0 0 mX2_slotOf [vR q, vI k, vI w] N σ Q := by
  refine Call.of mcX2_slotOf (Nat.le_of_ble_eq_true rfl) (fun y hy => ?_)
  subst hy
  refine P.iload_n (dq dtX2_slotOf 0 rfl) rfl ?_
  refine P.if_lt (t := 29) (dq dtX2_slotOf 1 rfl) rfl (by omega) (fun c_1 => ?_) (fun c_1 => ?_)
  · refine P.iconst (dq dtX2_slotOf 17 rfl) ?_
    refine P.iret (dq dtX2_slotOf 18 rfl) rfl rfl rfl ?_
    first | exact h (by omega) | exact h1 (by omega) | exact h2 (by omega) | (exfalso; omega)
  · refine P.iload_n (dq dtX2_slotOf 2 rfl) rfl ?_
    refine P.aload_n (dq dtX2_slotOf 3 rfl) rfl ?_
    refine P.get flX2_9 (dq dtX2_slotOf 4 rfl) (by repeat (first | assumption | exact up_s | rw [up_n (by first | assumption | (apply Ne.symm; assumption) | decide | omega)])) (by rfl) ?_
    refine P.icmp_ge (t := 29) (dq dtX2_slotOf 5 rfl) rfl (by omega) (by omega) (fun c_9 => ?_) (fun c_9 => ?_)
    · refine P.iconst (dq dtX2_slotOf 17 rfl) ?_
      refine P.iret (dq dtX2_slotOf 18 rfl) rfl rfl rfl ?_
      first | exact h (by omega) | exact h1 (by omega) | exact h2 (by omega) | (exfalso; omega)
    · refine P.iload_n (dq dtX2_slotOf 6 rfl) rfl ?_
      refine P.if_lt (t := 29) (dq dtX2_slotOf 7 rfl) rfl (by omega) (fun c_13 => ?_) (fun c_13 => ?_)
      · refine P.iconst (dq dtX2_slotOf 17 rfl) ?_
        refine P.iret (dq dtX2_slotOf 18 rfl) rfl rfl rfl ?_
        first | exact h (by omega) | exact h1 (by omega) | exact h2 (by omega) | (exfalso; omega)
      · refine P.iload_n (dq dtX2_slotOf 8 rfl) rfl ?_
        refine P.iconst (dq dtX2_slotOf 9 rfl) ?_
        refine P.icmp_ge (t := 29) (dq dtX2_slotOf 10 rfl) rfl (by omega) (by omega) (fun c_18 => ?_) (fun c_18 => ?_)
        · refine P.iconst (dq dtX2_slotOf 17 rfl) ?_
          refine P.iret (dq dtX2_slotOf 18 rfl) rfl rfl rfl ?_
          first | exact h (by omega) | exact h1 (by omega) | exact h2 (by omega) | (exfalso; omega)
        · refine P.iload_n (dq dtX2_slotOf 11 rfl) rfl ?_
          refine P.iconst (dq dtX2_slotOf 12 rfl) ?_
          refine P.imul (dq dtX2_slotOf 13 rfl) ?_
          refine P.iload_n (dq dtX2_slotOf 14 rfl) rfl ?_
          refine P.iadd (dq dtX2_slotOf 15 rfl) ?_
          refine P.goto (t := 30) (dq dtX2_slotOf 16 rfl) rfl ?_
          refine P.iret (dq dtX2_slotOf 18 rfl) rfl rfl rfl ?_
          first | exact h (by omega) | exact h1 (by omega) | exact h2 (by omega) | (exfalso; omega)
/-- Measured.countAt -/
theorem ct_X2_countAt {x : CM} {d N : Nat} {σ : PH} {Q : PQ} {q c e : Nat} {p s : Int} (hq : σ q = pcO 2 [vI p, vI s, vR c, vR e]) (hp : 0 ≤ p ∧ p ≤ 8) {cn : Int → Int} (hd : 1 ≤ d) (hc : σ c = pcI 0 16 cn) {k w : Int} (hk : inR k) (hw : inR w) (h1 : (0 ≤ k ∧ k < p) ∧ 0 ≤ w ∧ w < 2 → Q (some (vI (cn (k * 2 + w)))) σ) (h2 : ¬ ((0 ≤ k ∧ k < p) ∧ 0 ≤ w ∧ w < 2) → Q (some (vI 0)) σ) : Call x d 0 0 mX2_countAt [vR q, vI k, vI w] N σ Q := by
  refine Call.of mcX2_countAt (Nat.le_of_ble_eq_true rfl) (fun y hy => ?_)
  subst hy
  refine P.aload_n (dq dtX2_countAt 0 rfl) rfl ?_
  refine P.iload_n (dq dtX2_countAt 1 rfl) rfl ?_
  refine P.iload_n (dq dtX2_countAt 2 rfl) rfl ?_
  refine P.callV2 (M' := mX2_slotOf) (d' := d - 1) mlX2_34 mcX2_slotOf mvX2_slotOf (dq dtX2_countAt 3 rfl) (by omega) (Nat.le_of_ble_eq_true rfl) (by repeat (first | assumption | exact up_s | rw [up_n (by first | assumption | (apply Ne.symm; assumption) | decide | omega)])) rfl ?_
  refine ct_X2_slotOf (by repeat (first | assumption | exact up_s | rw [up_n (by first | assumption | (apply Ne.symm; assumption) | decide | omega)])) (by omega) (by omega) (by omega) (fun n_3 => ?_) (fun n_3 => ?_)
  · refine P.istore_n (dq dtX2_countAt 4 rfl) (by decide) rfl rfl ?_
    refine P.iload_n (dq dtX2_countAt 5 rfl) rfl ?_
    refine P.if_ge (t := 15) (dq dtX2_countAt 6 rfl) rfl (by omega) (fun c_8 => ?_) (fun c_8 => ?_)
    · refine P.aload_n (dq dtX2_countAt 9 rfl) rfl ?_
      refine P.get flX2_18 (dq dtX2_countAt 10 rfl) (by repeat (first | assumption | exact up_s | rw [up_n (by first | assumption | (apply Ne.symm; assumption) | decide | omega)])) (by rfl) ?_
      refine P.iload_n (dq dtX2_countAt 11 rfl) rfl ?_
      refine P.iald (dq dtX2_countAt 12 rfl) (by repeat (first | assumption | exact up_s | rw [up_n (by first | assumption | (apply Ne.symm; assumption) | decide | omega)])) (by omega) (by omega) (by omega) ?_
      refine P.iret (dq dtX2_countAt 13 rfl) rfl rfl rfl ?_
      first | exact h (by omega) | exact h1 (by omega) | exact h2 (by omega) | (exfalso; omega)
    · refine P.iconst (dq dtX2_countAt 7 rfl) ?_
      refine P.goto (t := 21) (dq dtX2_countAt 8 rfl) rfl ?_
      refine P.iret (dq dtX2_countAt 13 rfl) rfl rfl rfl ?_
      first | exact h (by omega) | exact h1 (by omega) | exact h2 (by omega) | (exfalso; omega)
  · refine P.istore_n (dq dtX2_countAt 4 rfl) (by decide) rfl rfl ?_
    refine P.iload_n (dq dtX2_countAt 5 rfl) rfl ?_
    refine P.if_ge (t := 15) (dq dtX2_countAt 6 rfl) rfl (by omega) (fun c_8 => ?_) (fun c_8 => ?_)
    · refine P.aload_n (dq dtX2_countAt 9 rfl) rfl ?_
      refine P.get flX2_18 (dq dtX2_countAt 10 rfl) (by repeat (first | assumption | exact up_s | rw [up_n (by first | assumption | (apply Ne.symm; assumption) | decide | omega)])) (by rfl) ?_
      refine P.iload_n (dq dtX2_countAt 11 rfl) rfl ?_
      refine P.iald (dq dtX2_countAt 12 rfl) (by repeat (first | assumption | exact up_s | rw [up_n (by first | assumption | (apply Ne.symm; assumption) | decide | omega)])) (by omega) (by omega) (by omega) ?_
      refine P.iret (dq dtX2_countAt 13 rfl) rfl rfl rfl ?_
      first | exact h (by omega) | exact h1 (by omega) | exact h2 (by omega) | (exfalso; omega)
    · refine P.iconst (dq dtX2_countAt 7 rfl) ?_
      refine P.goto (t := 21) (dq dtX2_countAt 8 rfl) rfl ?_
      refine P.iret (dq dtX2_countAt 13 rfl) rfl rfl rfl ?_
      first | exact h (by omega) | exact h1 (by omega) | exact h2 (by omega) | (exfalso; omega)
/-- Measured.errAt -/
theorem ct_X2_errAt {x : CM} {d N : Nat} {σ : PH} {Q : PQ} {q c e : Nat} {p s : Int} (hq : σ q = pcO 2 [vI p, vI s, vR c, vR e]) (hp : 0 ≤ p ∧ p ≤ 8) {cn er : Int → Int} (hd : 1 ≤ d) (hc : σ c = pcI 0 16 cn) (he : σ e = pcI 0 96 er) {k w j : Int} (hk : inR k) (hw : inR w) (hj : inR j) (hcn : (0 ≤ k ∧ k < p) ∧ 0 ≤ w ∧ w < 2 → 0 ≤ cn (k * 2 + w) ∧ cn (k * 2 + w) ≤ 6) (h1 : ((0 ≤ k ∧ k < p) ∧ 0 ≤ w ∧ w < 2) ∧ 0 ≤ j ∧ j < cn (k * 2 + w) → Q (some (vI (er ((k * 2 + w) * 6 + j)))) σ) (h2 : ¬ (((0 ≤ k ∧ k < p) ∧ 0 ≤ w ∧ w < 2) ∧ 0 ≤ j ∧ j < cn (k * 2 + w)) → Q (some (vI (-100000))) σ) : Call x d 0 0 mX2_errAt [vR q, vI k, vI w, vI j] N σ Q := by
  refine Call.of mcX2_errAt (Nat.le_of_ble_eq_true rfl) (fun y hy => ?_)
  subst hy
  refine P.aload_n (dq dtX2_errAt 0 rfl) rfl ?_
  refine P.iload_n (dq dtX2_errAt 1 rfl) rfl ?_
  refine P.iload_n (dq dtX2_errAt 2 rfl) rfl ?_
  refine P.callV2 (M' := mX2_slotOf) (d' := d - 1) mlX2_34 mcX2_slotOf mvX2_slotOf (dq dtX2_errAt 3 rfl) (by omega) (Nat.le_of_ble_eq_true rfl) (by repeat (first | assumption | exact up_s | rw [up_n (by first | assumption | (apply Ne.symm; assumption) | decide | omega)])) rfl ?_
  refine ct_X2_slotOf (by repeat (first | assumption | exact up_s | rw [up_n (by first | assumption | (apply Ne.symm; assumption) | decide | omega)])) (by omega) (by omega) (by omega) (fun n_3 => ?_) (fun n_3 => ?_)
  · refine P.istore (dq dtX2_errAt 4 rfl) (by decide) rfl rfl ?_
    refine P.iload (dq dtX2_errAt 5 rfl) rfl ?_
    refine P.if_lt (t := 28) (dq dtX2_errAt 6 rfl) rfl (by omega) (fun c_10 => ?_) (fun c_10 => ?_)
    · refine P.ldc (n := -100000) (dq dtX2_errAt 15 rfl) kcX2_37 rfl ?_
      refine P.goto (t := 45) (dq dtX2_errAt 16 rfl) rfl ?_
      refine P.iret (dq dtX2_errAt 25 rfl) rfl rfl rfl ?_
      first | exact h (by omega) | exact h1 (by omega) | exact h2 (by omega) | (exfalso; omega)
    · refine P.iload_n (dq dtX2_errAt 7 rfl) rfl ?_
      refine P.if_lt (t := 28) (dq dtX2_errAt 8 rfl) rfl (by omega) (fun c_14 => ?_) (fun c_14 => ?_)
      · refine P.ldc (n := -100000) (dq dtX2_errAt 15 rfl) kcX2_37 rfl ?_
        refine P.goto (t := 45) (dq dtX2_errAt 16 rfl) rfl ?_
        refine P.iret (dq dtX2_errAt 25 rfl) rfl rfl rfl ?_
        first | exact h (by omega) | exact h1 (by omega) | exact h2 (by omega) | (exfalso; omega)
      · refine P.iload_n (dq dtX2_errAt 9 rfl) rfl ?_
        refine P.aload_n (dq dtX2_errAt 10 rfl) rfl ?_
        refine P.get flX2_18 (dq dtX2_errAt 11 rfl) (by repeat (first | assumption | exact up_s | rw [up_n (by first | assumption | (apply Ne.symm; assumption) | decide | omega)])) (by rfl) ?_
        refine P.iload (dq dtX2_errAt 12 rfl) rfl ?_
        refine P.iald (dq dtX2_errAt 13 rfl) (by repeat (first | assumption | exact up_s | rw [up_n (by first | assumption | (apply Ne.symm; assumption) | decide | omega)])) (by omega) (by omega) (by omega) ?_
        refine P.icmp_lt (t := 33) (dq dtX2_errAt 14 rfl) rfl (by omega) (by omega) (fun c_25 => ?_) (fun c_25 => ?_)
        · refine P.aload_n (dq dtX2_errAt 17 rfl) rfl ?_
          refine P.get flX2_22 (dq dtX2_errAt 18 rfl) (by repeat (first | assumption | exact up_s | rw [up_n (by first | assumption | (apply Ne.symm; assumption) | decide | omega)])) (by rfl) ?_
          refine P.iload (dq dtX2_errAt 19 rfl) rfl ?_
          refine P.bipush (dq dtX2_errAt 20 rfl) rfl ?_
          refine P.imul (dq dtX2_errAt 21 rfl) ?_
          refine P.iload_n (dq dtX2_errAt 22 rfl) rfl ?_
          refine P.iadd (dq dtX2_errAt 23 rfl) ?_
          refine P.iald (dq dtX2_errAt 24 rfl) (by repeat (first | assumption | exact up_s | rw [up_n (by first | assumption | (apply Ne.symm; assumption) | decide | omega)])) (by omega) (by omega) (by omega) ?_
          refine P.iret (dq dtX2_errAt 25 rfl) rfl rfl rfl ?_
          first | exact h (by omega) | exact h1 (by omega) | exact h2 (by omega) | (exfalso; omega)
        · refine P.ldc (n := -100000) (dq dtX2_errAt 15 rfl) kcX2_37 rfl ?_
          refine P.goto (t := 45) (dq dtX2_errAt 16 rfl) rfl ?_
          refine P.iret (dq dtX2_errAt 25 rfl) rfl rfl rfl ?_
          first | exact h (by omega) | exact h1 (by omega) | exact h2 (by omega) | (exfalso; omega)
  · refine P.istore (dq dtX2_errAt 4 rfl) (by decide) rfl rfl ?_
    refine P.iload (dq dtX2_errAt 5 rfl) rfl ?_
    refine P.if_lt (t := 28) (dq dtX2_errAt 6 rfl) rfl (by omega) (fun c_10 => ?_) (fun c_10 => ?_)
    · refine P.ldc (n := -100000) (dq dtX2_errAt 15 rfl) kcX2_37 rfl ?_
      refine P.goto (t := 45) (dq dtX2_errAt 16 rfl) rfl ?_
      refine P.iret (dq dtX2_errAt 25 rfl) rfl rfl rfl ?_
      first | exact h (by omega) | exact h1 (by omega) | exact h2 (by omega) | (exfalso; omega)
    · refine P.iload_n (dq dtX2_errAt 7 rfl) rfl ?_
      refine P.if_lt (t := 28) (dq dtX2_errAt 8 rfl) rfl (by omega) (fun c_14 => ?_) (fun c_14 => ?_)
      · refine P.ldc (n := -100000) (dq dtX2_errAt 15 rfl) kcX2_37 rfl ?_
        refine P.goto (t := 45) (dq dtX2_errAt 16 rfl) rfl ?_
        refine P.iret (dq dtX2_errAt 25 rfl) rfl rfl rfl ?_
        first | exact h (by omega) | exact h1 (by omega) | exact h2 (by omega) | (exfalso; omega)
      · refine P.iload_n (dq dtX2_errAt 9 rfl) rfl ?_
        refine P.aload_n (dq dtX2_errAt 10 rfl) rfl ?_
        refine P.get flX2_18 (dq dtX2_errAt 11 rfl) (by repeat (first | assumption | exact up_s | rw [up_n (by first | assumption | (apply Ne.symm; assumption) | decide | omega)])) (by rfl) ?_
        refine P.iload (dq dtX2_errAt 12 rfl) rfl ?_
        refine P.iald (dq dtX2_errAt 13 rfl) (by repeat (first | assumption | exact up_s | rw [up_n (by first | assumption | (apply Ne.symm; assumption) | decide | omega)])) (by omega) (by omega) (by omega) ?_
        refine P.icmp_lt (t := 33) (dq dtX2_errAt 14 rfl) rfl (by omega) (by omega) (fun c_25 => ?_) (fun c_25 => ?_)
        · refine P.aload_n (dq dtX2_errAt 17 rfl) rfl ?_
          refine P.get flX2_22 (dq dtX2_errAt 18 rfl) (by repeat (first | assumption | exact up_s | rw [up_n (by first | assumption | (apply Ne.symm; assumption) | decide | omega)])) (by rfl) ?_
          refine P.iload (dq dtX2_errAt 19 rfl) rfl ?_
          refine P.bipush (dq dtX2_errAt 20 rfl) rfl ?_
          refine P.imul (dq dtX2_errAt 21 rfl) ?_
          refine P.iload_n (dq dtX2_errAt 22 rfl) rfl ?_
          refine P.iadd (dq dtX2_errAt 23 rfl) ?_
          refine P.iald (dq dtX2_errAt 24 rfl) (by repeat (first | assumption | exact up_s | rw [up_n (by first | assumption | (apply Ne.symm; assumption) | decide | omega)])) (by omega) (by omega) (by omega) ?_
          refine P.iret (dq dtX2_errAt 25 rfl) rfl rfl rfl ?_
          first | exact h (by omega) | exact h1 (by omega) | exact h2 (by omega) | (exfalso; omega)
        · refine P.ldc (n := -100000) (dq dtX2_errAt 15 rfl) kcX2_37 rfl ?_
          refine P.goto (t := 45) (dq dtX2_errAt 16 rfl) rfl ?_
          refine P.iret (dq dtX2_errAt 25 rfl) rfl rfl rfl ?_
          first | exact h (by omega) | exact h1 (by omega) | exact h2 (by omega) | (exfalso; omega)
end
section
def keepL (ks : List Nat) (L : List (Option Value)) : List (Option Value) := L.mapIdx fun i v => if ks.contains i then v else none
theorem P.keep {x : CX} {d : Nat} {M : MI} {Q : PQ} {b : Nat × Nat} {pc : Nat} {L : List (Option Value)} {st : List Value} {N : Nat} {σ : PH} (ks : List Nat) (h : P x d M Q b pc (keepL ks L) st N σ) : P x d M Q b pc L st N σ := by
  intro ok H locs cells slots ls hW hS hL h1 h2
  refine h ok H locs cells slots ls hW hS ⟨hL.1, hL.2.1, fun i v hi => ?_⟩ h1 h2
  unfold keepL at hi
  rw [List.getElem?_mapIdx] at hi
  cases hv : L[i]? with
  | none => rw [hv] at hi; cases hi
  | some o =>
    rw [hv] at hi
    have hi2 : (if ks.contains i then o else none) = some v := Option.some.inj hi
    by_cases hc : ks.contains i
    · rw [if_pos hc] at hi2
      exact hL.2.2 i v (by rw [hv, hi2])
    · rw [if_neg hc] at hi2
      cases hi2
theorem ediv_is {a c k : Int} (hc : 0 < c) (h1 : k * c ≤ a) (h2 : a < (k + 1) * c) : a / c = k := by
  have e1 := (Int.le_ediv_iff_mul_le hc).mpr h1
  have e2 := (Int.ediv_lt_iff_lt_mul hc).mpr h2
  omega
theorem tdiv_b {a c : Int} (hc : 0 < c) : (0 ≤ a → a.tdiv c * c ≤ a ∧ a < (a.tdiv c + 1) * c ∧ 0 ≤ a.tdiv c) ∧ (a < 0 → a ≤ a.tdiv c * c ∧ (a.tdiv c - 1) * c < a ∧ a.tdiv c ≤ 0) := by
  constructor
  · intro h
    rw [Int.tdiv_eq_ediv_of_nonneg h]
    have e1 := Int.mul_ediv_add_emod a c
    have e2 := Int.emod_nonneg a (by omega : c ≠ 0)
    have e3 := Int.emod_lt_of_pos a hc
    have e4 := Int.ediv_nonneg h (by omega : 0 ≤ c)
    rw [Int.mul_comm] at e1
    refine ⟨by omega, ?_, e4⟩
    rw [Int.add_mul]
    omega
  · intro h
    have e0 : a.tdiv c = -((-a) / c) := by
      have e := Int.neg_tdiv (a := -a) (b := c)
      rw [Int.neg_neg] at e
      rw [e, Int.tdiv_eq_ediv_of_nonneg (by omega)]
    rw [e0]
    have e1 := Int.mul_ediv_add_emod (-a) c
    have e2 := Int.emod_nonneg (-a) (by omega : c ≠ 0)
    have e3 := Int.emod_lt_of_pos (-a) hc
    have e4 := Int.ediv_nonneg (by omega : 0 ≤ -a) (by omega : 0 ≤ c)
    rw [Int.mul_comm] at e1
    refine ⟨by rw [Int.neg_mul]; omega, ?_, by omega⟩
    rw [Int.sub_mul, Int.neg_mul]
    omega
theorem tdiv_R {a c : Int} (hc : 0 < c) (ha : inR a) : inR (a.tdiv c) ∧ inR (a.tdiv c * c) := by
  obtain ⟨h1, h2⟩ := tdiv_b (a := a) hc
  rcases Int.lt_or_le a 0 with h | h
  · obtain ⟨q1, q2, q3⟩ := h2 h
    have q4 : a.tdiv c * c ≤ a.tdiv c * 1 := Int.mul_le_mul_of_nonpos_left q3 (by omega)
    have q5 : a.tdiv c * c ≤ 0 := by omega
    unfold inR
    refine ⟨⟨by omega, by omega⟩, by omega, by omega⟩
  · obtain ⟨q1, q2, q3⟩ := h1 h
    have q4 : a.tdiv c * 1 ≤ a.tdiv c * c := Int.mul_le_mul_of_nonneg_left (by omega) q3
    unfold inR
    refine ⟨⟨by omega, by omega⟩, by omega, by omega⟩
theorem tdiv_floor {a c : Int} (hc : 0 < c) : (0 ≤ a → a.tdiv c = a / c) ∧ (a.tdiv c * c = a → a.tdiv c = a / c) ∧ (a < 0 → a.tdiv c * c ≠ a → a.tdiv c - 1 = a / c) := by
  obtain ⟨h1, h2⟩ := tdiv_b (a := a) hc
  refine ⟨fun h => Int.tdiv_eq_ediv_of_nonneg h, fun h => ?_, fun h h3 => ?_⟩
  · refine (ediv_is hc (by omega) ?_).symm
    rw [Int.add_mul]; omega
  · obtain ⟨q1, q2, q3⟩ := h2 h
    refine (ediv_is hc (by omega) ?_).symm
    rw [Int.sub_add_cancel]
    omega
/-- of two as near the lesser one -/
def near (a b : Int) : Int := -((b - 2 * a) / (2 * b))
theorem near_eq {a b : Int} (hb : 0 < b) : near a b = (2 * a + b - 1) / (2 * b) := by
  unfold near
  have e1 := Int.mul_ediv_add_emod (b - 2 * a) (2 * b)
  have e2 := Int.emod_nonneg (b - 2 * a) (by omega : 2 * b ≠ 0)
  have e3 := Int.emod_lt_of_pos (b - 2 * a) (by omega : 0 < 2 * b)
  rw [Int.mul_comm] at e1
  refine (ediv_is (by omega) ?_ ?_).symm
  · rw [Int.neg_mul]; omega
  · rw [Int.add_mul, Int.neg_mul]; omega
/-- the greatest common divisor -/
def gcdI (a b : Int) : Int := ((a.toNat.gcd b.toNat : Nat) : Int)
theorem gcdI_0 {a : Int} (ha : 0 ≤ a) : gcdI a 0 = a := by
  unfold gcdI
  simp
  omega
theorem gcdI_step {a b : Int} (ha : 0 ≤ a) (hb : 0 < b) : gcdI b (a.tmod b) = gcdI a b := by
  unfold gcdI
  rw [Int.tmod_eq_emod_of_nonneg ha]
  have e : (a % b).toNat = a.toNat % b.toNat := by
    have := Int.toNat_emod ha (by omega : 0 ≤ b)
    exact this
  rw [e, Nat.gcd_comm b.toNat, ← Nat.gcd_rec, Nat.gcd_comm]
theorem gcdI_pos {a b : Int} (hb : 0 < b) : 0 < gcdI a b := by
  unfold gcdI
  have : 0 < a.toNat.gcd b.toNat := Nat.gcd_pos_of_pos_right _ (by omega)
  omega
theorem gcdI_le {a b : Int} (hb : 0 < b) : gcdI a b ≤ b := by
  unfold gcdI
  have : a.toNat.gcd b.toNat ≤ b.toNat := Nat.gcd_le_right _ (by omega)
  omega
theorem tmod_b {a b : Int} (ha : 0 ≤ a) (hb : 0 < b) : 0 ≤ a.tmod b ∧ a.tmod b < b := by
  rw [Int.tmod_eq_emod_of_nonneg ha]
  exact ⟨Int.emod_nonneg a (by omega), Int.emod_lt_of_pos a hb⟩
theorem tmod_half {b r : Int} (hr : 0 < r) (hb : r < b) : 2 * b.tmod r < b := by
  rw [Int.tmod_eq_emod_of_nonneg (by omega)]
  have e1 := Int.mul_ediv_add_emod b r
  have e2 := Int.emod_nonneg b (by omega : r ≠ 0)
  have e3 := Int.emod_lt_of_pos b hr
  have e4 : 1 ≤ b / r := (Int.le_ediv_iff_mul_le hr).mpr (by omega)
  have e5 : r * 1 ≤ r * (b / r) := Int.mul_le_mul_of_nonneg_left e4 (by omega)
  omega
end
section
/-- Math.floorDiv, of a divisor above 0 -/
theorem ct_floorDiv {x : CM} {d N : Nat} {σ : PH} {Q : PQ} {a c : Int} (ha : inR a) (hc : inR c) (h0 : 0 < c) (h : Q (some (vI (a / c))) σ) : Call x d 0 0 mJ9_floorDiv_7cf53 [vI a, vI c] N σ Q := by
  refine Call.of mcJ9_floorDiv_7cf53 (Nat.le_of_ble_eq_true rfl) (fun y hy => ?_)
  subst hy
  obtain ⟨r1, r2⟩ := tdiv_R h0 ha
  obtain ⟨f1, f2, f3⟩ := tdiv_floor (a := a) h0
  refine P.iload_n (dq dtJ9_floorDiv_7cf53 0 rfl) rfl ?_
  refine P.iload_n (dq dtJ9_floorDiv_7cf53 1 rfl) rfl ?_
  refine P.idiv (dq dtJ9_floorDiv_7cf53 2 rfl) (by omega) (by omega) (by omega) ?_
  refine P.istore_n (dq dtJ9_floorDiv_7cf53 3 rfl) (by decide) rfl rfl ?_
  refine P.iload_n (dq dtJ9_floorDiv_7cf53 4 rfl) rfl ?_
  refine P.iload_n (dq dtJ9_floorDiv_7cf53 5 rfl) rfl ?_
  refine P.ixor (dq dtJ9_floorDiv_7cf53 6 rfl) (by omega) (by omega) (fun z_6 hz_6 hs_6 => ?_)
  refine P.if_ge (t := 21) (dq dtJ9_floorDiv_7cf53 7 rfl) rfl (by omega) (fun c_7 => ?_) (fun c_7 => ?_)
  · refine P.iload_n (dq dtJ9_floorDiv_7cf53 17 rfl) rfl ?_
    refine P.iret (dq dtJ9_floorDiv_7cf53 18 rfl) rfl rfl rfl ?_
    first | (rw [f1 (by omega)]; exact h) | (rw [f2 (by omega)]; exact h) | (exfalso; omega)
  · refine P.iload_n (dq dtJ9_floorDiv_7cf53 8 rfl) rfl ?_
    refine P.iload_n (dq dtJ9_floorDiv_7cf53 9 rfl) rfl ?_
    refine P.imul (dq dtJ9_floorDiv_7cf53 10 rfl) ?_
    refine P.iload_n (dq dtJ9_floorDiv_7cf53 11 rfl) rfl ?_
    refine P.icmp_eq (t := 21) (dq dtJ9_floorDiv_7cf53 12 rfl) rfl (by omega) (by omega) (fun c_14 => ?_) (fun c_14 => ?_)
    · refine P.iload_n (dq dtJ9_floorDiv_7cf53 17 rfl) rfl ?_
      refine P.iret (dq dtJ9_floorDiv_7cf53 18 rfl) rfl rfl rfl ?_
      first | (rw [f1 (by omega)]; exact h) | (rw [f2 (by omega)]; exact h) | (exfalso; omega)
    · refine P.iload_n (dq dtJ9_floorDiv_7cf53 13 rfl) rfl ?_
      refine P.iconst (dq dtJ9_floorDiv_7cf53 14 rfl) ?_
      refine P.isub (dq dtJ9_floorDiv_7cf53 15 rfl) ?_
      refine P.iret (dq dtJ9_floorDiv_7cf53 16 rfl) rfl rfl rfl ?_
      rw [f3 (by omega) (by omega)]
      exact h
/-- AxisTable.nearestLesser -/
theorem ct_X6_nearestLesser {x : CM} {d N : Nat} {σ : PH} {Q : PQ} {a c : Int} (hd : 1 ≤ d) (ha : -100000000 ≤ a ∧ a ≤ 100000000) (hc : 0 < c ∧ c ≤ 100000000) (h : Q (some (vI (near a c))) σ) : Call x d 0 0 mX6_nearestLesser [vI a, vI c] N σ Q := by
  refine Call.of mcX6_nearestLesser (Nat.le_of_ble_eq_true rfl) (fun y hy => ?_)
  subst hy
  refine P.iload_n (dq dtX6_nearestLesser 0 rfl) rfl ?_
  refine P.iconst (dq dtX6_nearestLesser 1 rfl) ?_
  refine P.icmp_ge (t := 9) (dq dtX6_nearestLesser 2 rfl) rfl (by omega) (by omega) (fun c_2 => ?_) (fun c_2 => ?_)
  · refine P.iload_n (dq dtX6_nearestLesser 5 rfl) rfl ?_
    refine P.iconst (dq dtX6_nearestLesser 6 rfl) ?_
    refine P.iload_n (dq dtX6_nearestLesser 7 rfl) rfl ?_
    refine P.imul (dq dtX6_nearestLesser 8 rfl) ?_
    refine P.isub (dq dtX6_nearestLesser 9 rfl) ?_
    refine P.iconst (dq dtX6_nearestLesser 10 rfl) ?_
    refine P.iload_n (dq dtX6_nearestLesser 11 rfl) rfl ?_
    refine P.imul (dq dtX6_nearestLesser 12 rfl) ?_
    refine P.callS2 (M' := mJ9_floorDiv_7cf53) (d' := d - 1) mlX6_287 mcJ9_floorDiv_7cf53 msJ9_floorDiv_7cf53 (dq dtX6_nearestLesser 13 rfl) (by omega) (Nat.le_of_ble_eq_true rfl) ?_
    refine ct_floorDiv (by omega) (by omega) (by omega) ?_
    refine P.ineg (dq dtX6_nearestLesser 14 rfl) ?_
    refine P.iret (dq dtX6_nearestLesser 15 rfl) rfl rfl rfl ?_
    first | exact h | (exfalso; omega)
  · refine P.iconst (dq dtX6_nearestLesser 3 rfl) ?_
    refine P.goto (t := 21) (dq dtX6_nearestLesser 4 rfl) rfl ?_
    refine P.iret (dq dtX6_nearestLesser 15 rfl) rfl rfl rfl ?_
    first | exact h | (exfalso; omega)
/-- AxisTableModel.nearest -/
theorem ct_X7_nearest {x : CM} {d N : Nat} {σ : PH} {Q : PQ} {a c : Int} (ha : -100000000 ≤ a ∧ a ≤ 100000000) (hc : 0 < c ∧ c ≤ 100000000) (h : Q (some (vI (near a c))) σ) : Call x d 0 0 mX7_nearest [vI a, vI c] N σ Q := by
  refine Call.of mcX7_nearest (Nat.le_of_ble_eq_true rfl) (fun y hy => ?_)
  subst hy
  have h0 : 0 < 2 * c := by omega
  obtain ⟨r1, r2⟩ := tdiv_R (a := 2 * a + c - 1) h0 (by omega)
  obtain ⟨f1, f2, f3⟩ := tdiv_floor (a := 2 * a + c - 1) h0
  have e0 := Int.tmod_add_mul_tdiv (2 * a + c - 1) (2 * c)
  rw [Int.mul_comm (2 * c) _] at e0
  obtain ⟨b1, b2⟩ := tdiv_b (a := 2 * a + c - 1) h0
  simp only [Int.sub_mul, Int.add_mul, Int.one_mul] at b1 b2
  rw [near_eq hc.1] at h
  refine P.iconst (dq dtX7_nearest 0 rfl) ?_
  refine P.iload_n (dq dtX7_nearest 1 rfl) rfl ?_
  refine P.imul (dq dtX7_nearest 2 rfl) ?_
  refine P.iload_n (dq dtX7_nearest 3 rfl) rfl ?_
  refine P.iadd (dq dtX7_nearest 4 rfl) ?_
  refine P.iconst (dq dtX7_nearest 5 rfl) ?_
  refine P.isub (dq dtX7_nearest 6 rfl) ?_
  refine P.istore_n (dq dtX7_nearest 7 rfl) (by decide) rfl rfl ?_
  refine P.iload_n (dq dtX7_nearest 8 rfl) rfl ?_
  refine P.iconst (dq dtX7_nearest 9 rfl) ?_
  refine P.iload_n (dq dtX7_nearest 10 rfl) rfl ?_
  refine P.imul (dq dtX7_nearest 11 rfl) ?_
  refine P.idiv (dq dtX7_nearest 12 rfl) (by omega) (by omega) (by omega) ?_
  refine P.iload_n (dq dtX7_nearest 13 rfl) rfl ?_
  refine P.iconst (dq dtX7_nearest 14 rfl) ?_
  refine P.iload_n (dq dtX7_nearest 15 rfl) rfl ?_
  refine P.imul (dq dtX7_nearest 16 rfl) ?_
  refine P.irem (dq dtX7_nearest 17 rfl) (by omega) (by omega) (by omega) ?_
  refine P.if_ge (t := 25) (dq dtX7_nearest 18 rfl) rfl (by omega) (fun c_18 => ?_) (fun c_18 => ?_)
  · refine P.iconst (dq dtX7_nearest 21 rfl) ?_
    refine P.isub (dq dtX7_nearest 22 rfl) ?_
    refine P.iret (dq dtX7_nearest 23 rfl) rfl rfl rfl ?_
    rcases Int.lt_or_le (2 * a + c - 1) 0 with hv | hv <;> first | (rw [← f1 (by omega)] at h; rw [Int.sub_zero]; exact h) | (rw [← f2 (by omega)] at h; rw [Int.sub_zero]; exact h) | (rw [f3 (by omega) (by omega)]; exact h) | (exfalso; omega)
  · refine P.iconst (dq dtX7_nearest 19 rfl) ?_
    refine P.goto (t := 26) (dq dtX7_nearest 20 rfl) rfl ?_
    refine P.isub (dq dtX7_nearest 22 rfl) ?_
    refine P.iret (dq dtX7_nearest 23 rfl) rfl rfl rfl ?_
    rcases Int.lt_or_le (2 * a + c - 1) 0 with hv | hv <;> first | (rw [← f1 (by omega)] at h; rw [Int.sub_zero]; exact h) | (rw [← f2 (by omega)] at h; rw [Int.sub_zero]; exact h) | (rw [f3 (by omega) (by omega)]; exact h) | (exfalso; omega)
/-- a round of greatestDivisor -/
theorem gd_head {x : CX} {d N : Nat} {σ : PH} {Q : PQ} {i j a c r : Int} (ha : 0 ≤ a ∧ a < 2147483648) (hc : 0 ≤ c ∧ c < 2147483648) (hr : 0 ≤ r ∧ r ≤ 64) (kx : 64 ≤ r ∨ c = 0 → Q (some (vI a)) σ)
    (ks : r < 64 → c ≠ 0 → P x d mX6_greatestDivisor Q (0, 0) 7 [some (vI i), some (vI j), some (vI c), some (vI (a.tmod c)), some (vI (r + 1)), none] [] N σ) : P x d mX6_greatestDivisor Q (0, 0) 7 [some (vI i), some (vI j), some (vI a), some (vI c), some (vI r), none] [] N σ := by
  refine P.iload (dq dtX6_greatestDivisor 6 rfl) rfl ?_
  refine P.bipush (dq dtX6_greatestDivisor 7 rfl) rfl ?_
  refine P.icmp_ge (t := 34) (dq dtX6_greatestDivisor 8 rfl) rfl (by omega) (by omega) (fun c_11 => ?_) (fun c_11 => ?_)
  · refine P.iload_n (dq dtX6_greatestDivisor 21 rfl) rfl ?_
    refine P.iret (dq dtX6_greatestDivisor 22 rfl) rfl rfl rfl ?_
    exact kx (by omega)
  · refine P.iload_n (dq dtX6_greatestDivisor 9 rfl) rfl ?_
    refine P.if_eq (t := 34) (dq dtX6_greatestDivisor 10 rfl) rfl (by omega) (fun c_15 => ?_) (fun c_15 => ?_)
    · refine P.iload_n (dq dtX6_greatestDivisor 21 rfl) rfl ?_
      refine P.iret (dq dtX6_greatestDivisor 22 rfl) rfl rfl rfl ?_
      exact kx (by omega)
    · refine P.iload_n (dq dtX6_greatestDivisor 11 rfl) rfl ?_
      refine P.iload_n (dq dtX6_greatestDivisor 12 rfl) rfl ?_
      refine P.irem (dq dtX6_greatestDivisor 13 rfl) (by omega) (by omega) (by omega) ?_
      refine P.istore (dq dtX6_greatestDivisor 14 rfl) (by decide) rfl rfl ?_
      refine P.iload_n (dq dtX6_greatestDivisor 15 rfl) rfl ?_
      refine P.istore_n (dq dtX6_greatestDivisor 16 rfl) (by decide) rfl rfl ?_
      refine P.iload (dq dtX6_greatestDivisor 17 rfl) rfl ?_
      refine P.istore_n (dq dtX6_greatestDivisor 18 rfl) (by decide) rfl rfl ?_
      refine P.iinc (dq dtX6_greatestDivisor 19 rfl) rfl (by decide) rfl rfl ?_
      refine P.goto (t := 7) (dq dtX6_greatestDivisor 20 rfl) rfl ?_
      refine P.keep [0, 1, 2, 3, 4] ?_
      exact ks (by omega) (by omega)
theorem gd_loop {x : CX} {d N : Nat} {σ : PH} {Q : PQ} {i j : Int} : ∀ (m : Nat) (a c r : Int), (0 ≤ a ∧ a < 2147483648) → (0 ≤ c ∧ c < 2147483648) → c < 2 ^ m → 0 ≤ r → r + 2 * (m : Int) ≤ 64 → Q (some (vI (gcdI a c))) σ → P x d mX6_greatestDivisor Q (0, 0) 7 [some (vI i), some (vI j), some (vI a), some (vI c), some (vI r), none] [] N σ := by
  intro m
  induction m with
  | zero =>
    intro a c r ha hc h1 h2 h3 h
    have hc0 : c = 0 := by simp at h1; omega
    subst hc0
    rw [gcdI_0 ha.1] at h
    exact gd_head ha hc (by omega) (fun _ => h) (fun _ h9 => absurd rfl h9)
  | succ m ih =>
    intro a c r ha hc h1 h2 h3 h
    refine gd_head ha hc (by omega) (fun h9 => ?_) (fun _ hne => ?_)
    · have hc0 : c = 0 := by omega
      rw [hc0, gcdI_0 ha.1] at h
      exact h
    · have hcp : 0 < c := by omega
      rw [← gcdI_step ha.1 hcp] at h
      obtain ⟨t1, t2⟩ := tmod_b ha.1 hcp
      generalize a.tmod c = u at *
      refine gd_head (by omega) (by omega) (by omega) (fun h9 => ?_) (fun _ hne2 => ?_)
      · have hu0 : u = 0 := by omega
        rw [hu0, gcdI_0 (by omega)] at h
        exact h
      · have hup : 0 < u := by omega
        rw [← gcdI_step (by omega) hup] at h
        have hh := tmod_half hup t2
        obtain ⟨t3, t4⟩ := tmod_b (a := c) (by omega) hup
        have hp : (2 : Int) ^ (m + 1) = 2 * 2 ^ m := by rw [Int.pow_succ]; omega
        rw [hp] at h1
        rw [show r + 1 + 1 = r + 2 by omega]
        exact ih u (c.tmod u) (r + 2) (by omega) (by omega) (by omega) (by omega) (by omega) h
/-- AxisTable.greatestDivisor -/
theorem ct_X6_greatestDivisor {x : CM} {d N : Nat} {σ : PH} {Q : PQ} {a c : Int} (ha : 0 ≤ a ∧ a < 2147483648) (hc : 0 ≤ c ∧ c < 2147483648) (h : Q (some (vI (gcdI a c))) σ) : Call x d 0 0 mX6_greatestDivisor [vI a, vI c] N σ Q := by
  refine Call.of mcX6_greatestDivisor (Nat.le_of_ble_eq_true rfl) (fun y hy => ?_)
  subst hy
  refine P.iload_n (dq dtX6_greatestDivisor 0 rfl) rfl ?_
  refine P.istore_n (dq dtX6_greatestDivisor 1 rfl) (by decide) rfl rfl ?_
  refine P.iload_n (dq dtX6_greatestDivisor 2 rfl) rfl ?_
  refine P.istore_n (dq dtX6_greatestDivisor 3 rfl) (by decide) rfl rfl ?_
  refine P.iconst (dq dtX6_greatestDivisor 4 rfl) ?_
  refine P.istore (dq dtX6_greatestDivisor 5 rfl) (by decide) rfl rfl ?_
  exact gd_loop 31 a c 0 ha hc (by omega) (by omega) (by omega) h
/-- a fraction's part, in lowest terms -/
def prt (a c p : Int) : Int := if p = 0 then a.tdiv (gcdI (if 0 ≤ a then a else -a) c) else c.tdiv (gcdI (if 0 ≤ a then a else -a) c)
/-- AxisTable.partOf -/
theorem ct_X6_partOf {x : CM} {d N : Nat} {σ : PH} {Q : PQ} {a c p : Int} (hd : 1 ≤ d) (ha : -2147483648 < a ∧ a < 2147483648) (hc : 0 < c ∧ c < 2147483648) (hp : inR p) (h : Q (some (vI (prt a c p))) σ) : Call x d 0 0 mX6_partOf [vI a, vI c, vI p] N σ Q := by
  refine Call.of mcX6_partOf (Nat.le_of_ble_eq_true rfl) (fun y hy => ?_)
  subst hy
  have g1 := gcdI_pos (a := if 0 ≤ a then a else -a) hc.1
  have g2 := gcdI_le (a := if 0 ≤ a then a else -a) hc.1
  unfold prt at h
  refine P.iload_n (dq dtX6_partOf 0 rfl) rfl ?_
  refine P.callS1 (M' := mJ9_abs_0f7a4) (d' := d - 1) mlX6_279 mcJ9_abs_0f7a4 msJ9_abs_0f7a4 (dq dtX6_partOf 1 rfl) (by omega) (Nat.le_of_ble_eq_true rfl) ?_
  refine ct_abs (by omega) (fun n_1 => ?_) (fun n_1 => ?_)
  · first | rw [if_pos (show 0 ≤ a by omega)] at h g1 g2 | rw [if_neg (show ¬ 0 ≤ a by omega)] at h g1 g2
    refine P.iload_n (dq dtX6_partOf 2 rfl) rfl ?_
    refine P.callS2 (M' := mX6_greatestDivisor) (d' := d - 1) mlX6_284 mcX6_greatestDivisor msX6_greatestDivisor (dq dtX6_partOf 3 rfl) (by omega) (Nat.le_of_ble_eq_true rfl) ?_
    refine ct_X6_greatestDivisor (by omega) (by omega) ?_
    refine P.istore_n (dq dtX6_partOf 4 rfl) (by decide) rfl rfl ?_
    refine P.iload_n (dq dtX6_partOf 5 rfl) rfl ?_
    refine P.iconst (dq dtX6_partOf 6 rfl) ?_
    refine P.icmp_ge (t := 16) (dq dtX6_partOf 7 rfl) rfl (by omega) (by omega) (fun c_11 => ?_) (fun c_11 => ?_)
    · refine P.iload_n (dq dtX6_partOf 10 rfl) rfl ?_
      refine P.if_ne (t := 26) (dq dtX6_partOf 11 rfl) rfl (by omega) (fun c_17 => ?_) (fun c_17 => ?_)
      · refine P.iload_n (dq dtX6_partOf 16 rfl) rfl ?_
        refine P.iload_n (dq dtX6_partOf 17 rfl) rfl ?_
        refine P.idiv (dq dtX6_partOf 18 rfl) (by omega) (by omega) (by omega) ?_
        refine P.iret (dq dtX6_partOf 19 rfl) rfl rfl rfl ?_
        first | (rw [if_pos (show p = 0 by omega)] at h; exact h) | (rw [if_neg (show ¬ p = 0 by omega)] at h; exact h)
      · refine P.iload_n (dq dtX6_partOf 12 rfl) rfl ?_
        refine P.iload_n (dq dtX6_partOf 13 rfl) rfl ?_
        refine P.idiv (dq dtX6_partOf 14 rfl) (by omega) (by omega) (by omega) ?_
        refine P.goto (t := 29) (dq dtX6_partOf 15 rfl) rfl ?_
        refine P.iret (dq dtX6_partOf 19 rfl) rfl rfl rfl ?_
        first | (rw [if_pos (show p = 0 by omega)] at h; exact h) | (rw [if_neg (show ¬ p = 0 by omega)] at h; exact h)
    · refine P.iconst (dq dtX6_partOf 8 rfl) ?_
      refine P.iret (dq dtX6_partOf 9 rfl) rfl rfl rfl ?_
      exfalso; omega
  · first | rw [if_pos (show 0 ≤ a by omega)] at h g1 g2 | rw [if_neg (show ¬ 0 ≤ a by omega)] at h g1 g2
    refine P.iload_n (dq dtX6_partOf 2 rfl) rfl ?_
    refine P.callS2 (M' := mX6_greatestDivisor) (d' := d - 1) mlX6_284 mcX6_greatestDivisor msX6_greatestDivisor (dq dtX6_partOf 3 rfl) (by omega) (Nat.le_of_ble_eq_true rfl) ?_
    refine ct_X6_greatestDivisor (by omega) (by omega) ?_
    refine P.istore_n (dq dtX6_partOf 4 rfl) (by decide) rfl rfl ?_
    refine P.iload_n (dq dtX6_partOf 5 rfl) rfl ?_
    refine P.iconst (dq dtX6_partOf 6 rfl) ?_
    refine P.icmp_ge (t := 16) (dq dtX6_partOf 7 rfl) rfl (by omega) (by omega) (fun c_11 => ?_) (fun c_11 => ?_)
    · refine P.iload_n (dq dtX6_partOf 10 rfl) rfl ?_
      refine P.if_ne (t := 26) (dq dtX6_partOf 11 rfl) rfl (by omega) (fun c_17 => ?_) (fun c_17 => ?_)
      · refine P.iload_n (dq dtX6_partOf 16 rfl) rfl ?_
        refine P.iload_n (dq dtX6_partOf 17 rfl) rfl ?_
        refine P.idiv (dq dtX6_partOf 18 rfl) (by omega) (by omega) (by omega) ?_
        refine P.iret (dq dtX6_partOf 19 rfl) rfl rfl rfl ?_
        first | (rw [if_pos (show p = 0 by omega)] at h; exact h) | (rw [if_neg (show ¬ p = 0 by omega)] at h; exact h)
      · refine P.iload_n (dq dtX6_partOf 12 rfl) rfl ?_
        refine P.iload_n (dq dtX6_partOf 13 rfl) rfl ?_
        refine P.idiv (dq dtX6_partOf 14 rfl) (by omega) (by omega) (by omega) ?_
        refine P.goto (t := 29) (dq dtX6_partOf 15 rfl) rfl ?_
        refine P.iret (dq dtX6_partOf 19 rfl) rfl rfl rfl ?_
        first | (rw [if_pos (show p = 0 by omega)] at h; exact h) | (rw [if_neg (show ¬ p = 0 by omega)] at h; exact h)
    · refine P.iconst (dq dtX6_partOf 8 rfl) ?_
      refine P.iret (dq dtX6_partOf 9 rfl) rfl rfl rfl ?_
      exfalso; omega
theorem mp_head {x : CX} {d N q : Nat} {σ : PH} {Q : PQ} {a b p u v : Int} (hu : 0 ≤ u ∧ u < 2147483648) (hv : 0 ≤ v ∧ v < 2147483648) (ha : inR a) (hb : inR b) (hp : inR p) (kx : v = 0 → 0 < u → Q (some (vI (if p = 0 then a.tdiv u else b.tdiv u))) σ) (hx : 0 < u ∨ v ≠ 0)
    (ks : v ≠ 0 → P x d mX7_part Q (0, 0) 15 [some (vR q), some (vI a), some (vI b), some (vI p), some (vI v), some (vI (u.tmod v)), none] [] N σ) : P x d mX7_part Q (0, 0) 15 [some (vR q), some (vI a), some (vI b), some (vI p), some (vI u), some (vI v), none] [] N σ := by
  refine P.iload (dq dtX7_part 9 rfl) rfl ?_
  refine P.if_eq (t := 38) (dq dtX7_part 10 rfl) rfl (by omega) (fun c_17 => ?_) (fun c_17 => ?_)
  · refine P.iload_n (dq dtX7_part 20 rfl) rfl ?_
    refine P.if_ne (t := 49) (dq dtX7_part 21 rfl) rfl (by omega) (fun c_39 => ?_) (fun c_39 => ?_)
    · refine P.iload_n (dq dtX7_part 26 rfl) rfl ?_
      refine P.iload (dq dtX7_part 27 rfl) rfl ?_
      refine P.idiv (dq dtX7_part 28 rfl) (by omega) (by omega) (by omega) ?_
      refine P.iret (dq dtX7_part 29 rfl) rfl rfl rfl ?_
      first | (have h := kx (by omega) (by omega); rw [if_pos (show p = 0 by omega)] at h; exact h) | (have h := kx (by omega) (by omega); rw [if_neg (show ¬ p = 0 by omega)] at h; exact h)
    · refine P.iload_n (dq dtX7_part 22 rfl) rfl ?_
      refine P.iload (dq dtX7_part 23 rfl) rfl ?_
      refine P.idiv (dq dtX7_part 24 rfl) (by omega) (by omega) (by omega) ?_
      refine P.goto (t := 53) (dq dtX7_part 25 rfl) rfl ?_
      refine P.iret (dq dtX7_part 29 rfl) rfl rfl rfl ?_
      first | (have h := kx (by omega) (by omega); rw [if_pos (show p = 0 by omega)] at h; exact h) | (have h := kx (by omega) (by omega); rw [if_neg (show ¬ p = 0 by omega)] at h; exact h)
  · refine P.iload (dq dtX7_part 11 rfl) rfl ?_
    refine P.iload (dq dtX7_part 12 rfl) rfl ?_
    refine P.irem (dq dtX7_part 13 rfl) (by omega) (by omega) (by omega) ?_
    refine P.istore (dq dtX7_part 14 rfl) (by decide) rfl rfl ?_
    refine P.iload (dq dtX7_part 15 rfl) rfl ?_
    refine P.istore (dq dtX7_part 16 rfl) (by decide) rfl rfl ?_
    refine P.iload (dq dtX7_part 17 rfl) rfl ?_
    refine P.istore (dq dtX7_part 18 rfl) (by decide) rfl rfl ?_
    refine P.goto (t := 15) (dq dtX7_part 19 rfl) rfl ?_
    refine P.keep [0, 1, 2, 3, 4, 5] ?_
    exact ks (by omega)
theorem mp_loop {x : CX} {d N q : Nat} {σ : PH} {Q : PQ} {a b p : Int} (ha : inR a) (hb : inR b) (hp : inR p) : ∀ (m : Nat) (u v : Int), (0 ≤ u ∧ u < 2147483648) → (0 ≤ v ∧ v < 2147483648) → v < m → (0 < u ∨ v ≠ 0) → Q (some (vI (if p = 0 then a.tdiv (gcdI u v) else b.tdiv (gcdI u v)))) σ → P x d mX7_part Q (0, 0) 15 [some (vR q), some (vI a), some (vI b), some (vI p), some (vI u), some (vI v), none] [] N σ := by
  intro m
  induction m with
  | zero => intro u v hu hv h1; omega
  | succ m ih =>
    intro u v hu hv h1 hx h
    refine mp_head hu hv ha hb hp (fun h9 _ => ?_) hx (fun hne => ?_)
    · rw [h9, gcdI_0 hu.1] at h
      exact h
    · have hvp : 0 < v := by omega
      rw [← gcdI_step hu.1 hvp] at h
      obtain ⟨t1, t2⟩ := tmod_b hu.1 hvp
      exact ih v (u.tmod v) (by omega) (by omega) (by omega) (by omega) h
/-- AxisTableModel.part -/
theorem ct_X7_part {x : CM} {d N : Nat} {σ : PH} {Q : PQ} {q : Nat} {a c p : Int} (ha : -2147483648 < a ∧ a < 2147483648) (hc : 0 < c ∧ c < 2147483648) (hp : inR p) (h : Q (some (vI (prt a c p))) σ) : Call x d 0 0 mX7_part [vR q, vI a, vI c, vI p] N σ Q := by
  refine Call.of mcX7_part (Nat.le_of_ble_eq_true rfl) (fun y hy => ?_)
  subst hy
  unfold prt at h
  refine P.iload_n (dq dtX7_part 0 rfl) rfl ?_
  refine P.if_ge (t := 9) (dq dtX7_part 1 rfl) rfl (by omega) (fun c_1 => ?_) (fun c_1 => ?_)
  · refine P.iload_n (dq dtX7_part 5 rfl) rfl ?_
    first | rw [if_pos (show 0 ≤ a by omega)] at h | rw [if_neg (show ¬ 0 ≤ a by omega)] at h
    refine P.istore (dq dtX7_part 6 rfl) (by decide) rfl rfl ?_
    refine P.iload_n (dq dtX7_part 7 rfl) rfl ?_
    refine P.istore (dq dtX7_part 8 rfl) (by decide) rfl rfl ?_
    exact mp_loop (by omega) (by omega) (by omega) (c.toNat + 1) _ c (by omega) (by omega) (by omega) (by omega) h
  · refine P.iload_n (dq dtX7_part 2 rfl) rfl ?_
    refine P.ineg (dq dtX7_part 3 rfl) ?_
    refine P.goto (t := 10) (dq dtX7_part 4 rfl) rfl ?_
    first | rw [if_pos (show 0 ≤ a by omega)] at h | rw [if_neg (show ¬ 0 ≤ a by omega)] at h
    refine P.istore (dq dtX7_part 6 rfl) (by decide) rfl rfl ?_
    refine P.iload_n (dq dtX7_part 7 rfl) rfl ?_
    refine P.istore (dq dtX7_part 8 rfl) (by decide) rfl rfl ?_
    exact mp_loop (by omega) (by omega) (by omega) (c.toNat + 1) _ c (by omega) (by omega) (by omega) (by omega) h
end
section
/-! the four texts: places 1000 .. 1003, their rows 1500 .. 1503 -/
def chS (k : Nat) (j : Int) : Int := ((bytS.getD k []).getD j.toNat 0).toInt
def lnS (k : Nat) : Int := (lenS.getD k 0 : Nat)
theorem chS_ok : ∀ k, k < 4 → ∀ j, j < lenS.getD k 0 → (((bytS.getD k []).getD j 0 &&& 255) = (bytS.getD k []).getD j 0 ∧ (((bytS.getD k []).getD j 0).toUInt32 % 65536).toInt32 = (bytS.getD k []).getD j 0 ∧ narrow .char (.int ((bytS.getD k []).getD j 0)) = .int ((bytS.getD k []).getD j 0)) := by decide +kernel
theorem lnS_b {k : Nat} (hk : k < 4) : 2 ≤ lnS k ∧ lnS k ≤ 4 := by
  have : ∀ k, k < 4 → 2 ≤ lnS k ∧ lnS k ≤ 4 := by decide +kernel
  exact this k hk
theorem rho_K {x : CM} {k : Nat} (h : k < 500) : rho x (1000 + k) = CM.adK x k := by
  unfold rho
  rw [if_neg (by omega), if_pos (by omega), show 1000 + k - 1000 = k by omega]
theorem rho_V {x : CM} {k : Nat} (h : k < 500) : rho x (1500 + k) = CM.adV x k := by
  unfold rho
  rw [if_neg (by omega), if_neg (by omega), if_pos (by omega), show 1500 + k - 1500 = k by omega]
section
variable {x : CX} {d : Nat} {M : MI} {Q : PQ} {b : Nat × Nat} {pc : Nat} {L : List (Option Value)} {st : List Value} {N : Nat} {σ : PH}
theorem P.sgetV {k : Nat} (hk : k < 4) (hd : decode (MI.cc M) pc = .ok (.getfield 9, 3)) (hM : MI.own M = RJ0) (kk : P x d M Q b (pc + 3) L (vR (1500 + k) :: st) N σ) : P x d M Q b pc L (vR (1000 + k) :: st) N σ := by
  intro ok H locs cells slots ls hW hS hL h1 h2
  obtain ⟨o1, o2, o3, o4, o5, o6, o7, o8, o9, o10, o11, o12, o13, o14⟩ := id ok
  have hk2 := kk ok H locs cells slots ls hW hS hL h1 h2
  have e5 : (vR (1500 + k) :: st).map (cvx (CX.cm x)) = .ref (CM.adV (CX.cm x) k) :: st.map (cvx (CX.cm x)) := by
    show Value.ref (rho (CX.cm x) (1500 + k)) :: _ = _
    rw [rho_V (by omega)]
  rw [e5] at hk2
  show W _ _ _ _ _ _ _ _ _ _ H locs cells slots _ (F0 _ pc ls (.ref (rho (CX.cm x) (1000 + k)) :: _))
  rw [rho_K (by omega)]
  rw [hM] at o6
  exact vk_getf o1 o2 (o9.2.2.2.2.2.1.1 k hk).2.2.1 hS o6 (o8 _ w_sV) (fun _ h => h) hd hk2
theorem P.sgetC {k : Nat} (hk : k < 4) (hd : decode (MI.cc M) pc = .ok (.getfield 15, 3)) (hM : MI.own M = RJ0) (kk : P x d M Q b (pc + 3) L (vI 0 :: st) N σ) : P x d M Q b pc L (vR (1000 + k) :: st) N σ := by
  intro ok H locs cells slots ls hW hS hL h1 h2
  obtain ⟨o1, o2, o3, o4, o5, o6, o7, o8, o9, o10, o11, o12, o13, o14⟩ := id ok
  have hk2 := kk ok H locs cells slots ls hW hS hL h1 h2
  show W _ _ _ _ _ _ _ _ _ _ H locs cells slots _ (F0 _ pc ls (.ref (rho (CX.cm x) (1000 + k)) :: _))
  rw [rho_K (by omega)]
  rw [hM] at o6
  exact vk_getf o1 o2 (o9.2.2.2.2.2.1.1 k hk).2.1 hS o6 (o8 _ w_sC) (fun _ h => h) hd hk2
theorem P.gsC (hd : decode (MI.cc M) pc = .ok (.getstatic 38, 3)) (hM : MI.own M = RJ0) (kk : P x d M Q b (pc + 3) L (vI 1 :: st) N σ) : P x d M Q b pc L st N σ := by
  intro ok H locs cells slots ls hW hS hL h1 h2
  obtain ⟨o1, o2, o3, o4, o5, o6, o7, o8, o9, o10, o11, o12, o13, o14⟩ := id ok
  rw [hM] at o6
  exact va_gets o1 o2 o9.2.2.2.2.2.2.1 hS o6 (o8 _ w_sZ) (fun _ h => h) hd (kk ok H locs cells slots ls hW hS hL h1 h2)
theorem P.gsF (hd : decode (MI.cc M) pc = .ok (.getstatic 1053, 3)) (hM : MI.own M = RJ0) (kk : ∀ v : Value, v = .null ∨ v = vR 1509 → P x d M Q b (pc + 3) L (v :: st) N σ) : P x d M Q b pc L st N σ := by
  intro ok H locs cells slots ls hW hS hL h1 h2
  obtain ⟨o1, o2, o3, o4, o5, o6, o7, o8, o9, o10, o11, o12, o13, o14⟩ := id ok
  rw [hM] at o6
  rcases o9.2.2.2.2.2.2.2 with z | z
  · exact va_gets o1 o2 z hS o6 (o8 _ w_sF) (fun _ h => h) hd (kk .null (Or.inl rfl) ok H locs cells slots ls hW hS hL h1 h2)
  · have hk2 := kk (vR 1509) (Or.inr rfl) ok H locs cells slots ls hW hS hL h1 h2
    have e5 : (vR 1509 :: st).map (cvx (CX.cm x)) = .ref (CM.adV (CX.cm x) 9) :: st.map (cvx (CX.cm x)) := by
      show Value.ref (rho (CX.cm x) (1500 + 9)) :: _ = _
      rw [rho_V (by omega)]
    rw [e5] at hk2
    exact va_gets o1 o2 z hS o6 (o8 _ w_sF) (fun _ h => h) hd hk2
theorem P.slen {k : Nat} (hk : k < 4) (hd : decode (MI.cc M) pc = .ok (.arraylength, 1)) (kk : P x d M Q b (pc + 1) L (vI (lnS k) :: st) N σ) : P x d M Q b pc L (vR (1500 + k) :: st) N σ := by
  intro ok H locs cells slots ls hW hS hL h1 h2
  obtain ⟨o1, o2, o3, o4, o5, o6, o7, o8, o9, o10, o11, o12, o13, o14⟩ := id ok
  show W _ _ _ _ _ _ _ _ _ _ H locs cells slots _ (F0 _ pc ls (.ref (rho (CX.cm x) (1500 + k)) :: _))
  rw [rho_V (by omega)]
  exact va_tlen o1 o2 (o9.2.2.2.2.2.1.1 k hk).2.2.2 hS (v := iI (lnS k)) (nI_iI _) hd (kk ok H locs cells slots ls hW hS hL h1 h2)
theorem P.sbald {k : Nat} {j : Int} (hk : k < 4) (hd : decode (MI.cc M) pc = .ok (.baload, 1)) (hj : 0 ≤ j ∧ j < lnS k) (kk : P x d M Q b (pc + 1) L (vI (chS k j) :: st) N σ) : P x d M Q b pc L (vI j :: vR (1500 + k) :: st) N σ := by
  intro ok H locs cells slots ls hW hS hL h1 h2
  obtain ⟨o1, o2, o3, o4, o5, o6, o7, o8, o9, o10, o11, o12, o13, o14⟩ := id ok
  have hb := lnS_b hk
  have hR : inR j := ⟨by omega, by omega⟩
  show W _ _ _ _ _ _ _ _ _ _ H locs cells slots _ (F0 _ pc ls (.int (iI j) :: .ref (rho (CX.cm x) (1500 + k)) :: _))
  rw [rho_V (by omega)]
  refine va_tb o1 o2 (o9.2.2.2.2.2.1.1 k hk).2.2.2 hS (iI_in hj.1 hj.2 hR) (v := vI (chS k j)) ?_ hd (kk ok H locs cells slots ls hW hS hL h1 h2)
  rw [iI_clamp hR]
  unfold vI chS
  rw [iI_of]
theorem P.iand {a c z : Int} (hd : decode (MI.cc M) pc = .ok (.iand, 1)) (hz : iI a &&& iI c = iI z) (k : P x d M Q b (pc + 1) L (vI z :: st) N σ) : P x d M Q b pc L (vI c :: vI a :: st) N σ :=
  fun ok H locs cells slots ls hW hS hL h1 h2 => lv_iand ok.1 ok.2.1 hd (by rw [hz]; exact k ok H locs cells slots ls hW hS hL h1 h2)
theorem P.i2c {a z : Int} (hd : decode (MI.cc M) pc = .ok (.i2c, 1)) (hz : ((iI a).toUInt32 % 65536).toInt32 = iI z) (k : P x d M Q b (pc + 1) L (vI z :: st) N σ) : P x d M Q b pc L (vI a :: st) N σ :=
  fun ok H locs cells slots ls hW hS hL h1 h2 => lv_i2c ok.1 ok.2.1 hd hz (k ok H locs cells slots ls hW hS hL h1 h2)
theorem P.ishr {a c z : Int} (hd : decode (MI.cc M) pc = .ok (.ishr, 1)) (hz : iI a >>> (iI c &&& 31) = iI z) (k : P x d M Q b (pc + 1) L (vI z :: st) N σ) : P x d M Q b pc L (vI c :: vI a :: st) N σ :=
  fun ok H locs cells slots ls hW hS hL h1 h2 => lv_ishr ok.1 ok.2.1 hd (by rw [hz]; exact k ok H locs cells slots ls hW hS hL h1 h2)
theorem P.nret {z : Int} {ty : FieldType} (hd : decode (MI.cc M) pc = .ok (.ireturn, 1)) (hlw : MI.lw M = false) (hr : MI.ret M = some ty) (hz : narrow ty (vI z) = vI z) (hb : b.1 = 0) (hQ : Q (some (vI z)) σ) : P x d M Q b pc L [vI z] N σ := by
  intro ok H locs cells slots ls hW hS hL h1 h2
  have hlocks : (CX.meth x).locks = false := ok.2.2.2.2.1
  obtain ⟨N0, hN0, hZ⟩ := ok.2.2.2.2.2.2.2.2.2.2.2.2.2.1 hlw
  rw [hZ]
  have hN : N = N0 + CX.mc x := by omega
  refine W.widen (k := CX.mc x) (n := CX.ms x) (by omega) (by omega) ?_
  exact W.zret (v := iI z) ok.1 ok.2.1 (ok.2.2.2.1.trans hr) hz (fun t ht hw => ⟨⟨some (vI z), σ, rfl, hQ, by rw [ht, ← hN]; exact hW⟩, hS.F ht⟩) hS.2.2 hd
theorem P.callVs {i n d' k : Nat} {M' : MI} {As : List Value} (hk : k < 4) (hl : Cond.methodLink (MI.own M) i (MI.y M') ∈ TW) (hM : MC M' n) (hV : MV M') (hS' : MI.own M' = RJ0) (hd : decode (MI.cc M) pc = .ok (.invokevirtual i, 3)) (hn : As.length = n) (hdd : d' + 1 ≤ d) (hst : sw st ≤ 8)
    (h : Call (CX.cm x) d' 0 0 M' (vR (1000 + k) :: As) N σ (fun r σ' => P x d M Q b (pc + 3) L (r.toList ++ st) N σ')) : P x d M Q b pc L (As.reverse ++ vR (1000 + k) :: st) N σ := by
  intro ok H locs cells slots ls hW hS hL h1 h2
  obtain ⟨o1, o2, o3, o4, o5, o6, o7, o8, o9, o10, o11, o12, o13, o14⟩ := id ok
  have hnl := hM.2.2.2.2.1
  have hrec := vk_recv o9.2.2.2.2.2.1 hk hS
  obtain ⟨pf, pu⟩ := pre_of (as := vR (1000 + k) :: As) o9 hW hS
  have hgo0 := va_runV (cells := cells) (slots := slots) (locs := locs) (H := H) (below := CX.below x) (meth := CX.meth x) (e := CX.e x) (R := CX.R x) (As := As.map (cvx (CX.cm x))) (rest := st.map (cvx (CX.cm x))) (b := rho (CX.cm x) (1000 + k)) (C := MI.own M') (own := MI.own M) (index := i) (n := n) (bytes := MI.cc M') (maxL := MI.nL M') (ret := MI.ret M') (Ts := TW) (cc := MI.cc M) (nL := MI.nL M) (g := F0 (CX.m x) pc ls ((As.reverse ++ vR (1000 + k) :: st).map (cvx (CX.cm x))))
      ⟨o1, o2, o3, o6, o8⟩ h ⟨callB_of n o8 (MC.good (M := M) hM) rfl rfl rfl (o8 _ hM.2.1) (o8 _ hl) hM.2.2.1 ⟨by show d' + 1 ≤ _; omega, by show 8 + (MI.nL M' + 11) + 36 * d' ≤ _; omega⟩, o8 _ hV.1, o8 _ hV.2⟩ ⟨pf, by rw [rho_K (by omega), hS']; exact hrec, pu⟩ rfl (by simpa using hn) hL.1 (by simp [cvv]) (by rw [show (F0 (CX.m x) pc ls ((As.reverse ++ vR (1000 + k) :: st).map (cvx (CX.cm x)))).monitorRoom = 0 from rfl, sw_cv]; omega) hd ⟨by omega, by omega⟩
  exact P.behind (b := b) (mc := 0) (ms := 0) ok hS hL h1 h2 ⟨Nat.zero_le _, Nat.zero_le _⟩ hgo0 (fun r σ' hk => hk)
end
end
section
theorem ct_coder {x : CM} {d N k : Nat} {σ : PH} {Q : PQ} (hk : k < 4) (h : Q (some (vI 0)) σ) : Call x d 0 0 mJ0_coder_7d493 [vR (1000 + k)] N σ Q := by
  refine Call.of mcJ0_coder_7d493 (Nat.le_of_ble_eq_true rfl) (fun y hy => ?_)
  subst hy
  refine P.gsC (dq dtJ0_coder_7d493 0 rfl) rfl ?_
  refine P.if_eq (t := 13) (dq dtJ0_coder_7d493 1 rfl) rfl (by omega) (fun h9 => absurd h9 (by decide)) (fun _ => ?_)
  refine P.aload_n (dq dtJ0_coder_7d493 2 rfl) rfl ?_
  refine P.sgetC hk (dq dtJ0_coder_7d493 3 rfl) rfl ?_
  refine P.goto (t := 14) (dq dtJ0_coder_7d493 4 rfl) rfl ?_
  exact P.nret (dq dtJ0_coder_7d493 6 rfl) rfl rfl (by decide +kernel) rfl h
theorem ct_isLatin1 {x : CM} {d N k : Nat} {σ : PH} {Q : PQ} (hk : k < 4) (h : Q (some (vI 1)) σ) : Call x d 0 0 mJ0_isLatin1_aae02 [vR (1000 + k)] N σ Q := by
  refine Call.of mcJ0_isLatin1_aae02 (Nat.le_of_ble_eq_true rfl) (fun y hy => ?_)
  subst hy
  refine P.gsC (dq dtJ0_isLatin1_aae02 0 rfl) rfl ?_
  refine P.if_eq (t := 17) (dq dtJ0_isLatin1_aae02 1 rfl) rfl (by omega) (fun h9 => absurd h9 (by decide)) (fun _ => ?_)
  refine P.aload_n (dq dtJ0_isLatin1_aae02 2 rfl) rfl ?_
  refine P.sgetC hk (dq dtJ0_isLatin1_aae02 3 rfl) rfl ?_
  refine P.if_ne (t := 17) (dq dtJ0_isLatin1_aae02 4 rfl) rfl (by omega) (fun h9 => absurd rfl h9) (fun _ => ?_)
  refine P.iconst (dq dtJ0_isLatin1_aae02 5 rfl) ?_
  refine P.goto (t := 18) (dq dtJ0_isLatin1_aae02 6 rfl) rfl ?_
  exact P.zret (dq dtJ0_isLatin1_aae02 8 rfl) rfl rfl (by decide) rfl h
theorem lnS_shr : ∀ k, k < 4 → iI (lnS k) >>> (iI 0 &&& 31) = iI (lnS k) := by decide +kernel
theorem ct_length {x : CM} {d N k : Nat} {σ : PH} {Q : PQ} (hd : 1 ≤ d) (hk : k < 4) (h : Q (some (vI (lnS k))) σ) : Call x d 0 0 mJ0_length_8abf5 [vR (1000 + k)] N σ Q := by
  refine Call.of mcJ0_length_8abf5 (Nat.le_of_ble_eq_true rfl) (fun y hy => ?_)
  subst hy
  refine P.aload_n (dq dtJ0_length_8abf5 0 rfl) rfl ?_
  refine P.sgetV hk (dq dtJ0_length_8abf5 1 rfl) rfl ?_
  refine P.slen hk (dq dtJ0_length_8abf5 2 rfl) ?_
  refine P.aload_n (dq dtJ0_length_8abf5 3 rfl) rfl ?_
  refine P.callVs (As := []) (M' := mJ0_coder_7d493) (d' := d - 1) hk mlJ0_335 mcJ0_coder_7d493 mvJ0_coder_7d493 rfl (dq dtJ0_length_8abf5 4 rfl) rfl (by omega) (Nat.le_of_ble_eq_true rfl) ?_
  refine ct_coder hk ?_
  refine P.ishr (dq dtJ0_length_8abf5 5 rfl) (lnS_shr k hk) ?_
  exact P.iret (dq dtJ0_length_8abf5 6 rfl) rfl rfl rfl h
theorem ct_precheck {x : CM} {d N : Nat} {σ : PH} {Q : PQ} {a c : Int} {v : Value} (hv : v = .null ∨ v = vR 1509) (ha : inR a) (hc : inR c) (hin : 0 ≤ a ∧ a < c) (h : Q (some (vI a)) σ) : Call x d 0 0 mJ3_checkIndex_8e157 [vI a, vI c, v] N σ Q := by
  refine Call.of mcJ3_checkIndex_8e157 (by rcases hv with rfl | rfl <;> exact Nat.le_of_ble_eq_true rfl) (fun y hy => ?_)
  subst hy
  have e : entL 3 [vI a, vI c, v] = [some (vI a), some (vI c), some v] := by rcases hv with rfl | rfl <;> rfl
  show P y d mJ3_checkIndex_8e157 Q (0, 0) 0 (entL 3 [vI a, vI c, v]) [] N σ
  rw [e]
  refine P.iload_n (dq dtJ3_checkIndex_8e157 0 rfl) rfl ?_
  refine P.if_lt (t := 9) (dq dtJ3_checkIndex_8e157 1 rfl) rfl ha (fun h9 => by omega) (fun _ => ?_)
  refine P.iload_n (dq dtJ3_checkIndex_8e157 2 rfl) rfl ?_
  refine P.iload_n (dq dtJ3_checkIndex_8e157 3 rfl) rfl ?_
  refine P.icmp_lt (t := 16) (dq dtJ3_checkIndex_8e157 4 rfl) rfl ha hc (fun _ => ?_) (fun h9 => by omega)
  refine P.iload_n (dq dtJ3_checkIndex_8e157 10 rfl) rfl ?_
  exact P.iret (dq dtJ3_checkIndex_8e157 11 rfl) rfl rfl rfl h
theorem ct_scheck {x : CM} {d N : Nat} {σ : PH} {Q : PQ} {a c : Int} (hd : 1 ≤ d) (ha : inR a) (hc : inR c) (hin : 0 ≤ a ∧ a < c) (h : Q none σ) : Call x d 0 0 mJ0_checkIndex_df160 [vI a, vI c] N σ Q := by
  refine Call.of mcJ0_checkIndex_df160 (Nat.le_of_ble_eq_true rfl) (fun y hy => ?_)
  subst hy
  refine P.iload_n (dq dtJ0_checkIndex_df160 0 rfl) rfl ?_
  refine P.iload_n (dq dtJ0_checkIndex_df160 1 rfl) rfl ?_
  refine P.gsF (dq dtJ0_checkIndex_df160 2 rfl) rfl (fun v hv => ?_)
  refine P.callS3 (M' := mJ3_checkIndex_8e157) (d' := d - 1) mlJ0_1059 mcJ3_checkIndex_8e157 msJ3_checkIndex_8e157 (dq dtJ0_checkIndex_df160 3 rfl) (by omega) (Nat.le_of_ble_eq_true rfl) ?_
  refine ct_precheck hv ha hc hin ?_
  refine P.pop (dq dtJ0_checkIndex_df160 4 rfl) rfl ?_
  exact P.vret (dq dtJ0_checkIndex_df160 5 rfl) rfl rfl rfl h
theorem ct_lcharAt {x : CM} {d N k : Nat} {σ : PH} {Q : PQ} {j : Int} (hd : 2 ≤ d) (hk : k < 4) (hj : 0 ≤ j ∧ j < lnS k) (h : Q (some (vI (chS k j))) σ) : Call x d 0 0 mJ1_charAt_3b067 [vR (1500 + k), vI j] N σ Q := by
  refine Call.of mcJ1_charAt_3b067 (Nat.le_of_ble_eq_true rfl) (fun y hy => ?_)
  subst hy
  have hb := lnS_b hk
  have hc := chS_ok k hk j.toNat (by have := hj.2; unfold lnS at this; omega)
  have e1 : iI (chS k j) = (bytS.getD k []).getD j.toNat 0 := iI_of _
  refine P.iload_n (dq dtJ1_charAt_3b067 0 rfl) rfl ?_
  refine P.aload_n (dq dtJ1_charAt_3b067 1 rfl) rfl ?_
  refine P.slen hk (dq dtJ1_charAt_3b067 2 rfl) ?_
  refine P.callS2 (M' := mJ0_checkIndex_df160) (d' := d - 1) mlJ1_9 mcJ0_checkIndex_df160 msJ0_checkIndex_df160 (dq dtJ1_charAt_3b067 3 rfl) (by omega) (Nat.le_of_ble_eq_true rfl) ?_
  refine ct_scheck (by omega) (by omega) (by omega) hj ?_
  refine P.aload_n (dq dtJ1_charAt_3b067 4 rfl) rfl ?_
  refine P.iload_n (dq dtJ1_charAt_3b067 5 rfl) rfl ?_
  refine P.sbald hk (dq dtJ1_charAt_3b067 6 rfl) hj ?_
  refine P.sipush (dq dtJ1_charAt_3b067 7 rfl) rfl ?_
  refine P.iand (z := chS k j) (dq dtJ1_charAt_3b067 8 rfl) (by rw [e1]; exact hc.1) ?_
  refine P.i2c (z := chS k j) (dq dtJ1_charAt_3b067 9 rfl) (by rw [e1]; exact hc.2.1) ?_
  exact P.nret (dq dtJ1_charAt_3b067 10 rfl) rfl rfl (by unfold vI; rw [e1]; exact hc.2.2) rfl h
theorem ct_charAt {x : CM} {d N k : Nat} {σ : PH} {Q : PQ} {j : Int} (hd : 3 ≤ d) (hk : k < 4) (hj : 0 ≤ j ∧ j < lnS k) (h : Q (some (vI (chS k j))) σ) : Call x d 0 0 mJ0_charAt_5068e [vR (1000 + k), vI j] N σ Q := by
  refine Call.of mcJ0_charAt_5068e (Nat.le_of_ble_eq_true rfl) (fun y hy => ?_)
  subst hy
  have hc := chS_ok k hk j.toNat (by have := hj.2; unfold lnS at this; omega)
  have e1 : iI (chS k j) = (bytS.getD k []).getD j.toNat 0 := iI_of _
  refine P.aload_n (dq dtJ0_charAt_5068e 0 rfl) rfl ?_
  refine P.callVs (As := []) (M' := mJ0_isLatin1_aae02) (d' := d - 1) hk mlJ0_492 mcJ0_isLatin1_aae02 mvJ0_isLatin1_aae02 rfl (dq dtJ0_charAt_5068e 1 rfl) rfl (by omega) (Nat.le_of_ble_eq_true rfl) ?_
  refine ct_isLatin1 hk ?_
  refine P.if_eq (t := 16) (dq dtJ0_charAt_5068e 2 rfl) rfl (by omega) (fun h9 => absurd h9 (by decide)) (fun _ => ?_)
  refine P.aload_n (dq dtJ0_charAt_5068e 3 rfl) rfl ?_
  refine P.sgetV hk (dq dtJ0_charAt_5068e 4 rfl) rfl ?_
  refine P.iload_n (dq dtJ0_charAt_5068e 5 rfl) rfl ?_
  refine P.callS2 (M' := mJ1_charAt_3b067) (d' := d - 1) mlJ0_495 mcJ1_charAt_3b067 msJ1_charAt_3b067 (dq dtJ0_charAt_5068e 6 rfl) (by omega) (Nat.le_of_ble_eq_true rfl) ?_
  refine ct_lcharAt (by omega) hk hj ?_
  exact P.nret (dq dtJ0_charAt_5068e 7 rfl) rfl rfl (by unfold vI; rw [e1]; exact hc.2.2) rfl h
end
section
/-! rows of letters: what is done to them, as functions -/
def shF (f : Int → Int) (k n : Int) : Int → Int := fun i => if k < i ∧ i ≤ n then f (i - 1) else f i
def insF (f : Int → Int) (n p l : Int) : Int → Int := upI (shF f p n) p l
def rmF (f : Int → Int) (a b k : Int) : Int → Int := fun i => if a ≤ i ∧ i < a + (k - b) then f (i + (b - a)) else f i
def rvF (f : Int → Int) (n k : Int) : Int → Int := fun i => if (0 ≤ i ∧ i < k) ∨ (n - k ≤ i ∧ i < n) then f (n - 1 - i) else f i
def apF (f g : Int → Int) (n m : Int) : Int → Int := fun i => if n ≤ i ∧ i < n + m then g (i - n) else f i
theorem shF_0 {f : Int → Int} {n : Int} : shF f n n = f := by
  funext i; unfold shF; rw [if_neg (by omega)]
theorem shF_step {f : Int → Int} {k n : Int} (h : k ≤ n) : upI (shF f k n) k (shF f k n (k - 1)) = shF f (k - 1) n := by
  funext i; simp only [upI, shF]; repeat' split
  all_goals first | rfl | (exfalso; omega) | (congr 1; omega)
theorem insF_n {f : Int → Int} {n l : Int} : insF f n n l = upI f n l := by unfold insF; rw [shF_0]
theorem rmF_0 {f : Int → Int} {a b : Int} : rmF f a b b = f := by
  funext i; unfold rmF; rw [if_neg (by omega)]
theorem rmF_step {f : Int → Int} {a b k : Int} (h1 : a ≤ b) (h : b ≤ k) : upI (rmF f a b k) (a + k - b) (rmF f a b k k) = rmF f a b (k + 1) := by
  funext i; simp only [upI, rmF]; repeat' split
  all_goals first | rfl | (exfalso; omega) | (congr 1; omega)
theorem rvF_0 {f : Int → Int} {n : Int} : rvF f n 0 = f := by
  funext i; unfold rvF; rw [if_neg (by omega)]
theorem rvF_step {f : Int → Int} {n k : Int} (h0 : 0 ≤ k) (h : 2 * (k + 1) ≤ n) : upI (upI (rvF f n k) k (rvF f n k (n - 1 - k))) (n - 1 - k) (rvF f n k k) = rvF f n (k + 1) := by
  funext i; simp only [upI, rvF]; repeat' split
  all_goals first | rfl | (exfalso; omega) | (congr 1; omega)
theorem apF_0 {f g : Int → Int} {n : Int} : apF f g n 0 = f := by
  funext i; unfold apF; rw [if_neg (by omega)]
theorem apF_step {f g : Int → Int} {n k : Int} (h : 0 ≤ k) : upI (apF f g n k) (n + k) (g k) = apF f g n (k + 1) := by
  funext i; simp only [upI, apF]; repeat' split
  all_goals first | rfl | (exfalso; omega) | (congr 1; omega)
/-- 0 ahead, 1 alike, 2 behind: from place k on, t places to compare -/
def ordF (f g : Int → Int) (n m : Int) : Nat → Int → Int
  | 0, _ => if n < m then 0 else if n = m then 1 else 2
  | t + 1, k => if f k = g k then ordF f g n m t (k + 1) else if f k < g k then 0 else 2
/-- are the t places from k on alike? -/
def eqF (f g : Int → Int) (a : Int) : Nat → Int → Bool
  | 0, _ => true
  | t + 1, k => decide (f (a + k) = g k) && eqF f g a t (k + 1)
/-- how often, at the t places from a on -/
def tmF (f g : Int → Int) (m : Nat) : Nat → Int → Int
  | 0, _ => 0
  | t + 1, a => (if eqF f g a m 0 = true then 1 else 0) + tmF f g m t (a + 1)
/-- the number of t digits from k on, v ahead of them; -1: one is none -/
def dgF (f : Int → Int) : Nat → Int → Int → Int
  | 0, _, v => v
  | t + 1, k, v => if 48 ≤ f k ∧ f k ≤ 57 then dgF f t (k + 1) (10 * v + f k - 48) else -1
end
section
theorem lp_putAt {x : CX} {d N : Nat} {σ : PH} {Q : PQ} {q a r : Nat} {n : Int} {f : Int → Int} (hq : σ q = pcO 1 [vR a, vI n]) (ha : σ a = pcI 0 r f) (hn : 0 ≤ n ∧ n ≤ r ∧ r < 1000) {p l : Int} (hp : 0 ≤ p ∧ p ≤ n) (hr : n < r) (h : Q none (up (up σ a (pcI 0 r (insF f n p l))) q (pcO 1 [vR a, vI (n + 1)]))) : ∀ (t : Nat) (k : Int), p ≤ k ∧ k ≤ n → k - p < t → P x d mX1_putAt Q (0, 0) 26 [some (vR q), some (vI p), some (vI l), some (vI k)] [] N (up σ a (pcI 0 r (shF f k n))) := by
  intro t
  induction t with
  | zero =>
    intro k hk hm
    exfalso; omega
  | succ t ih =>
    intro k hk hm
    have hne : q ≠ a := ne_oI hq ha
    refine P.iload_n (dq dtX1_putAt 14 rfl) rfl ?_
    refine P.iload_n (dq dtX1_putAt 15 rfl) rfl ?_
    refine P.icmp_le (t := 51) (dq dtX1_putAt 16 rfl) rfl (by omega) (by omega) (fun c_28 => ?_) (fun c_28 => ?_)
    · obtain rfl : k = p := by omega
      refine P.aload_n (dq dtX1_putAt 29 rfl) rfl ?_
      refine P.get flX1_21 (dq dtX1_putAt 30 rfl) (by repeat (first | assumption | exact up_s | rw [up_n (by first | assumption | (apply Ne.symm; assumption) | decide | omega)])) (by rfl) ?_
      refine P.iload_n (dq dtX1_putAt 31 rfl) rfl ?_
      refine P.iload_n (dq dtX1_putAt 32 rfl) rfl ?_
      refine P.iast (dq dtX1_putAt 33 rfl) (by repeat (first | assumption | exact up_s | rw [up_n (by first | assumption | (apply Ne.symm; assumption) | decide | omega)])) (by omega) (by omega) (by omega) ?_
      rw [up_up]
      refine P.aload_n (dq dtX1_putAt 34 rfl) rfl ?_
      refine P.dup (dq dtX1_putAt 35 rfl) rfl ?_
      refine P.get flX1_9 (dq dtX1_putAt 36 rfl) (by repeat (first | assumption | exact up_s | rw [up_n (by first | assumption | (apply Ne.symm; assumption) | decide | omega)])) (by rfl) ?_
      refine P.iconst (dq dtX1_putAt 37 rfl) ?_
      refine P.iadd (dq dtX1_putAt 38 rfl) ?_
      refine P.put flX1_9 rfl (dq dtX1_putAt 39 rfl) (by repeat (first | assumption | exact up_s | rw [up_n (by first | assumption | (apply Ne.symm; assumption) | decide | omega)])) (by exact Nat.le_of_ble_eq_true rfl) rfl rfl rfl rfl rfl ?_
      refine P.vret (dq dtX1_putAt 40 rfl) rfl rfl rfl ?_
      exact h
    · refine P.aload_n (dq dtX1_putAt 17 rfl) rfl ?_
      refine P.get flX1_21 (dq dtX1_putAt 18 rfl) (by repeat (first | assumption | exact up_s | rw [up_n (by first | assumption | (apply Ne.symm; assumption) | decide | omega)])) (by rfl) ?_
      refine P.iload_n (dq dtX1_putAt 19 rfl) rfl ?_
      refine P.aload_n (dq dtX1_putAt 20 rfl) rfl ?_
      refine P.get flX1_21 (dq dtX1_putAt 21 rfl) (by repeat (first | assumption | exact up_s | rw [up_n (by first | assumption | (apply Ne.symm; assumption) | decide | omega)])) (by rfl) ?_
      refine P.iload_n (dq dtX1_putAt 22 rfl) rfl ?_
      refine P.iconst (dq dtX1_putAt 23 rfl) ?_
      refine P.isub (dq dtX1_putAt 24 rfl) ?_
      refine P.iald (dq dtX1_putAt 25 rfl) (by repeat (first | assumption | exact up_s | rw [up_n (by first | assumption | (apply Ne.symm; assumption) | decide | omega)])) (by omega) (by omega) (by omega) ?_
      refine P.iast (dq dtX1_putAt 26 rfl) (by repeat (first | assumption | exact up_s | rw [up_n (by first | assumption | (apply Ne.symm; assumption) | decide | omega)])) (by omega) (by omega) (by omega) ?_
      refine P.iinc (dq dtX1_putAt 27 rfl) rfl (by decide) rfl rfl ?_
      refine P.goto (t := 26) (dq dtX1_putAt 28 rfl) rfl ?_
      rw [up_up, shF_step (by omega)]
      exact ih (k - 1) (by omega) (by omega)
/-- Letters.putAt -/
theorem ct_X1_putAt {x : CM} {d N : Nat} {σ : PH} {Q : PQ} {q a r : Nat} {n : Int} {f : Int → Int} (hq : σ q = pcO 1 [vR a, vI n]) (ha : σ a = pcI 0 r f) (hn : 0 ≤ n ∧ n ≤ r ∧ r < 1000) {p l : Int} (hd : 1 ≤ d) (hp : 0 ≤ p ∧ p ≤ n) (hr : n < r) (h : Q none (up (up σ a (pcI 0 r (insF f n p l))) q (pcO 1 [vR a, vI (n + 1)]))) : Call x d 0 0 mX1_putAt [vR q, vI p, vI l] N σ Q := by
  refine Call.of mcX1_putAt (Nat.le_of_ble_eq_true rfl) (fun y hy => ?_)
  subst hy
  refine P.iload_n (dq dtX1_putAt 0 rfl) rfl ?_
  refine P.if_lt (t := 20) (dq dtX1_putAt 1 rfl) rfl (by omega) (fun c_1 => ?_) (fun c_1 => ?_)
  · refine P.vret (dq dtX1_putAt 10 rfl) rfl rfl rfl ?_
    exfalso; omega
  · refine P.iload_n (dq dtX1_putAt 2 rfl) rfl ?_
    refine P.aload_n (dq dtX1_putAt 3 rfl) rfl ?_
    refine P.get flX1_9 (dq dtX1_putAt 4 rfl) (by repeat (first | assumption | exact up_s | rw [up_n (by first | assumption | (apply Ne.symm; assumption) | decide | omega)])) (by rfl) ?_
    refine P.icmp_gt (t := 20) (dq dtX1_putAt 5 rfl) rfl (by omega) (by omega) (fun c_9 => ?_) (fun c_9 => ?_)
    · refine P.vret (dq dtX1_putAt 10 rfl) rfl rfl rfl ?_
      exfalso; omega
    · refine P.aload_n (dq dtX1_putAt 6 rfl) rfl ?_
      refine P.iconst (dq dtX1_putAt 7 rfl) ?_
      refine P.callV1 (M' := mX1_hasRoomFor) (d' := d - 1) mlX1_29 mcX1_hasRoomFor mvX1_hasRoomFor (dq dtX1_putAt 8 rfl) (by omega) (Nat.le_of_ble_eq_true rfl) (by repeat (first | assumption | exact up_s | rw [up_n (by first | assumption | (apply Ne.symm; assumption) | decide | omega)])) rfl ?_
      refine ct_X1_hasRoomFor (by repeat (first | assumption | exact up_s | rw [up_n (by first | assumption | (apply Ne.symm; assumption) | decide | omega)])) (by repeat (first | assumption | exact up_s | rw [up_n (by first | assumption | (apply Ne.symm; assumption) | decide | omega)])) (by omega) (by omega) (fun n_14 => ?_) (fun n_14 => ?_)
      · refine P.if_ne (t := 21) (dq dtX1_putAt 9 rfl) rfl (by omega) (fun _ => ?_) (fun h9 => absurd h9 (by decide))
        refine P.aload_n (dq dtX1_putAt 11 rfl) rfl ?_
        refine P.get flX1_9 (dq dtX1_putAt 12 rfl) (by repeat (first | assumption | exact up_s | rw [up_n (by first | assumption | (apply Ne.symm; assumption) | decide | omega)])) (by rfl) ?_
        refine P.istore_n (dq dtX1_putAt 13 rfl) (by decide) rfl rfl ?_
        rw [← up_id ha, ← shF_0 (f := f) (n := n)]
        exact lp_putAt hq ha hn hp hr h (n - p + 1).toNat n (by omega) (by omega)
      · refine P.if_ne (t := 21) (dq dtX1_putAt 9 rfl) rfl (by omega) (fun h9 => absurd h9 (by decide)) (fun _ => ?_)
        refine P.vret (dq dtX1_putAt 10 rfl) rfl rfl rfl ?_
        exfalso; omega
/-- Letters.put -/
theorem ct_X1_put {x : CM} {d N : Nat} {σ : PH} {Q : PQ} {q a r : Nat} {n : Int} {f : Int → Int} (hq : σ q = pcO 1 [vR a, vI n]) (ha : σ a = pcI 0 r f) (hn : 0 ≤ n ∧ n ≤ r ∧ r < 1000) {l : Int} (hd : 2 ≤ d) (hr : n < r) (h : Q none (up (up σ a (pcI 0 r (upI f n l))) q (pcO 1 [vR a, vI (n + 1)]))) : Call x d 0 0 mX1_put [vR q, vI l] N σ Q := by
  refine Call.of mcX1_put (Nat.le_of_ble_eq_true rfl) (fun y hy => ?_)
  subst hy
  refine P.aload_n (dq dtX1_put 0 rfl) rfl ?_
  refine P.aload_n (dq dtX1_put 1 rfl) rfl ?_
  refine P.get flX1_9 (dq dtX1_put 2 rfl) (by repeat (first | assumption | exact up_s | rw [up_n (by first | assumption | (apply Ne.symm; assumption) | decide | omega)])) (by rfl) ?_
  refine P.iload_n (dq dtX1_put 3 rfl) rfl ?_
  refine P.callV2 (M' := mX1_putAt) (d' := d - 1) mlX1_25 mcX1_putAt mvX1_putAt (dq dtX1_put 4 rfl) (by omega) (Nat.le_of_ble_eq_true rfl) (by repeat (first | assumption | exact up_s | rw [up_n (by first | assumption | (apply Ne.symm; assumption) | decide | omega)])) rfl ?_
  refine ct_X1_putAt (by repeat (first | assumption | exact up_s | rw [up_n (by first | assumption | (apply Ne.symm; assumption) | decide | omega)])) (by repeat (first | assumption | exact up_s | rw [up_n (by first | assumption | (apply Ne.symm; assumption) | decide | omega)])) (by omega) (by omega) (by omega) (by omega) ?_
  refine P.vret (dq dtX1_put 5 rfl) rfl rfl rfl ?_
  rw [insF_n]
  exact h
theorem lp_remove {x : CX} {d N : Nat} {σ : PH} {Q : PQ} {q a r : Nat} {n : Int} {f : Int → Int} (hq : σ q = pcO 1 [vR a, vI n]) (ha : σ a = pcI 0 r f) (hn : 0 ≤ n ∧ n ≤ r ∧ r < 1000) {u v : Int} (hp : 0 ≤ u ∧ u ≤ v ∧ v ≤ n) (h : Q none (up (up σ a (pcI 0 r (rmF f u v n))) q (pcO 1 [vR a, vI (n - (v - u))]))) : ∀ (t : Nat) (k : Int), v ≤ k ∧ k ≤ n → n - k < t → P x d mX1_remove Q (0, 0) 20 [some (vR q), some (vI u), some (vI v), some (vI k)] [] N (up σ a (pcI 0 r (rmF f u v k))) := by
  intro t
  induction t with
  | zero =>
    intro k hk hm
    exfalso; omega
  | succ t ih =>
    intro k hk hm
    have hne : q ≠ a := ne_oI hq ha
    refine P.iload_n (dq dtX1_remove 12 rfl) rfl ?_
    refine P.aload_n (dq dtX1_remove 13 rfl) rfl ?_
    refine P.get flX1_9 (dq dtX1_remove 14 rfl) (by repeat (first | assumption | exact up_s | rw [up_n (by first | assumption | (apply Ne.symm; assumption) | decide | omega)])) (by rfl) ?_
    refine P.icmp_ge (t := 50) (dq dtX1_remove 15 rfl) rfl (by omega) (by omega) (fun c_25 => ?_) (fun c_25 => ?_)
    · obtain rfl : k = n := by omega
      refine P.aload_n (dq dtX1_remove 30 rfl) rfl ?_
      refine P.dup (dq dtX1_remove 31 rfl) rfl ?_
      refine P.get flX1_9 (dq dtX1_remove 32 rfl) (by repeat (first | assumption | exact up_s | rw [up_n (by first | assumption | (apply Ne.symm; assumption) | decide | omega)])) (by rfl) ?_
      refine P.iload_n (dq dtX1_remove 33 rfl) rfl ?_
      refine P.iload_n (dq dtX1_remove 34 rfl) rfl ?_
      refine P.isub (dq dtX1_remove 35 rfl) ?_
      refine P.isub (dq dtX1_remove 36 rfl) ?_
      refine P.put flX1_9 rfl (dq dtX1_remove 37 rfl) (by repeat (first | assumption | exact up_s | rw [up_n (by first | assumption | (apply Ne.symm; assumption) | decide | omega)])) (by exact Nat.le_of_ble_eq_true rfl) rfl rfl rfl rfl rfl ?_
      refine P.vret (dq dtX1_remove 38 rfl) rfl rfl rfl ?_
      exact h
    · refine P.aload_n (dq dtX1_remove 16 rfl) rfl ?_
      refine P.get flX1_21 (dq dtX1_remove 17 rfl) (by repeat (first | assumption | exact up_s | rw [up_n (by first | assumption | (apply Ne.symm; assumption) | decide | omega)])) (by rfl) ?_
      refine P.iload_n (dq dtX1_remove 18 rfl) rfl ?_
      refine P.iload_n (dq dtX1_remove 19 rfl) rfl ?_
      refine P.iadd (dq dtX1_remove 20 rfl) ?_
      refine P.iload_n (dq dtX1_remove 21 rfl) rfl ?_
      refine P.isub (dq dtX1_remove 22 rfl) ?_
      refine P.aload_n (dq dtX1_remove 23 rfl) rfl ?_
      refine P.get flX1_21 (dq dtX1_remove 24 rfl) (by repeat (first | assumption | exact up_s | rw [up_n (by first | assumption | (apply Ne.symm; assumption) | decide | omega)])) (by rfl) ?_
      refine P.iload_n (dq dtX1_remove 25 rfl) rfl ?_
      refine P.iald (dq dtX1_remove 26 rfl) (by repeat (first | assumption | exact up_s | rw [up_n (by first | assumption | (apply Ne.symm; assumption) | decide | omega)])) (by omega) (by omega) (by omega) ?_
      refine P.iast (dq dtX1_remove 27 rfl) (by repeat (first | assumption | exact up_s | rw [up_n (by first | assumption | (apply Ne.symm; assumption) | decide | omega)])) (by omega) (by omega) (by omega) ?_
      refine P.iinc (dq dtX1_remove 28 rfl) rfl (by decide) rfl rfl ?_
      refine P.goto (t := 20) (dq dtX1_remove 29 rfl) rfl ?_
      rw [up_up, rmF_step (by omega) (by omega)]
      exact ih (k + 1) (by omega) (by omega)
/-- Letters.remove -/
theorem ct_X1_remove {x : CM} {d N : Nat} {σ : PH} {Q : PQ} {q a r : Nat} {n : Int} {f : Int → Int} (hq : σ q = pcO 1 [vR a, vI n]) (ha : σ a = pcI 0 r f) (hn : 0 ≤ n ∧ n ≤ r ∧ r < 1000) {u v : Int} (hp : 0 ≤ u ∧ u ≤ v ∧ v ≤ n) (h : Q none (up (up σ a (pcI 0 r (rmF f u v n))) q (pcO 1 [vR a, vI (n - (v - u))]))) : Call x d 0 0 mX1_remove [vR q, vI u, vI v] N σ Q := by
  refine Call.of mcX1_remove (Nat.le_of_ble_eq_true rfl) (fun y hy => ?_)
  subst hy
  refine P.iload_n (dq dtX1_remove 0 rfl) rfl ?_
  refine P.if_lt (t := 17) (dq dtX1_remove 1 rfl) rfl (by omega) (fun c_1 => ?_) (fun c_1 => ?_)
  · refine P.vret (dq dtX1_remove 9 rfl) rfl rfl rfl ?_
    exfalso; omega
  · refine P.iload_n (dq dtX1_remove 2 rfl) rfl ?_
    refine P.iload_n (dq dtX1_remove 3 rfl) rfl ?_
    refine P.icmp_gt (t := 17) (dq dtX1_remove 4 rfl) rfl (by omega) (by omega) (fun c_6 => ?_) (fun c_6 => ?_)
    · refine P.vret (dq dtX1_remove 9 rfl) rfl rfl rfl ?_
      exfalso; omega
    · refine P.iload_n (dq dtX1_remove 5 rfl) rfl ?_
      refine P.aload_n (dq dtX1_remove 6 rfl) rfl ?_
      refine P.get flX1_9 (dq dtX1_remove 7 rfl) (by repeat (first | assumption | exact up_s | rw [up_n (by first | assumption | (apply Ne.symm; assumption) | decide | omega)])) (by rfl) ?_
      refine P.icmp_le (t := 18) (dq dtX1_remove 8 rfl) rfl (by omega) (by omega) (fun c_14 => ?_) (fun c_14 => ?_)
      · refine P.iload_n (dq dtX1_remove 10 rfl) rfl ?_
        refine P.istore_n (dq dtX1_remove 11 rfl) (by decide) rfl rfl ?_
        rw [← up_id ha, ← rmF_0 (f := f) (a := u) (b := v)]
        exact lp_remove hq ha hn hp h (n - v + 1).toNat v (by omega) (by omega)
      · refine P.vret (dq dtX1_remove 9 rfl) rfl rfl rfl ?_
        exfalso; omega
theorem lp_reverse {x : CX} {d N : Nat} {σ : PH} {Q : PQ} {q a r : Nat} {n : Int} {f : Int → Int} (hq : σ q = pcO 1 [vR a, vI n]) (ha : σ a = pcI 0 r f) (hn : 0 ≤ n ∧ n ≤ r ∧ r < 1000) (h : Q none (up σ a (pcI 0 r (rvF f n (n / 2))))) : ∀ (t : Nat) (k : Int), 0 ≤ k ∧ k ≤ n / 2 → n / 2 - k < t → P x d mX1_reverse Q (0, 0) 2 [some (vR q), some (vI k), none] [] N (up σ a (pcI 0 r (rvF f n k))) := by
  intro t
  induction t with
  | zero =>
    intro k hk hm
    exfalso; omega
  | succ t ih =>
    intro k hk hm
    have hne : q ≠ a := ne_oI hq ha
    have e2 : n.tdiv 2 = n / 2 := Int.tdiv_eq_ediv_of_nonneg (by omega)
    refine P.iload_n (dq dtX1_reverse 2 rfl) rfl ?_
    refine P.aload_n (dq dtX1_reverse 3 rfl) rfl ?_
    refine P.get flX1_9 (dq dtX1_reverse 4 rfl) (by repeat (first | assumption | exact up_s | rw [up_n (by first | assumption | (apply Ne.symm; assumption) | decide | omega)])) (by rfl) ?_
    refine P.iconst (dq dtX1_reverse 5 rfl) ?_
    refine P.idiv (dq dtX1_reverse 6 rfl) (by omega) (by omega) (by omega) ?_
    refine P.icmp_ge (t := 58) (dq dtX1_reverse 7 rfl) rfl (by omega) (by omega) (fun c_9 => ?_) (fun c_9 => ?_)
    · refine P.vret (dq dtX1_reverse 38 rfl) rfl rfl rfl ?_
      obtain rfl : k = n / 2 := by omega
      exact h
    · refine P.aload_n (dq dtX1_reverse 8 rfl) rfl ?_
      refine P.get flX1_21 (dq dtX1_reverse 9 rfl) (by repeat (first | assumption | exact up_s | rw [up_n (by first | assumption | (apply Ne.symm; assumption) | decide | omega)])) (by rfl) ?_
      refine P.iload_n (dq dtX1_reverse 10 rfl) rfl ?_
      refine P.iald (dq dtX1_reverse 11 rfl) (by repeat (first | assumption | exact up_s | rw [up_n (by first | assumption | (apply Ne.symm; assumption) | decide | omega)])) (by omega) (by omega) (by omega) ?_
      refine P.istore_n (dq dtX1_reverse 12 rfl) (by decide) rfl rfl ?_
      refine P.aload_n (dq dtX1_reverse 13 rfl) rfl ?_
      refine P.get flX1_21 (dq dtX1_reverse 14 rfl) (by repeat (first | assumption | exact up_s | rw [up_n (by first | assumption | (apply Ne.symm; assumption) | decide | omega)])) (by rfl) ?_
      refine P.iload_n (dq dtX1_reverse 15 rfl) rfl ?_
      refine P.aload_n (dq dtX1_reverse 16 rfl) rfl ?_
      refine P.get flX1_21 (dq dtX1_reverse 17 rfl) (by repeat (first | assumption | exact up_s | rw [up_n (by first | assumption | (apply Ne.symm; assumption) | decide | omega)])) (by rfl) ?_
      refine P.aload_n (dq dtX1_reverse 18 rfl) rfl ?_
      refine P.get flX1_9 (dq dtX1_reverse 19 rfl) (by repeat (first | assumption | exact up_s | rw [up_n (by first | assumption | (apply Ne.symm; assumption) | decide | omega)])) (by rfl) ?_
      refine P.iconst (dq dtX1_reverse 20 rfl) ?_
      refine P.isub (dq dtX1_reverse 21 rfl) ?_
      refine P.iload_n (dq dtX1_reverse 22 rfl) rfl ?_
      refine P.isub (dq dtX1_reverse 23 rfl) ?_
      refine P.iald (dq dtX1_reverse 24 rfl) (by repeat (first | assumption | exact up_s | rw [up_n (by first | assumption | (apply Ne.symm; assumption) | decide | omega)])) (by omega) (by omega) (by omega) ?_
      refine P.iast (dq dtX1_reverse 25 rfl) (by repeat (first | assumption | exact up_s | rw [up_n (by first | assumption | (apply Ne.symm; assumption) | decide | omega)])) (by omega) (by omega) (by omega) ?_
      refine P.aload_n (dq dtX1_reverse 26 rfl) rfl ?_
      refine P.get flX1_21 (dq dtX1_reverse 27 rfl) (by repeat (first | assumption | exact up_s | rw [up_n (by first | assumption | (apply Ne.symm; assumption) | decide | omega)])) (by rfl) ?_
      refine P.aload_n (dq dtX1_reverse 28 rfl) rfl ?_
      refine P.get flX1_9 (dq dtX1_reverse 29 rfl) (by repeat (first | assumption | exact up_s | rw [up_n (by first | assumption | (apply Ne.symm; assumption) | decide | omega)])) (by rfl) ?_
      refine P.iconst (dq dtX1_reverse 30 rfl) ?_
      refine P.isub (dq dtX1_reverse 31 rfl) ?_
      refine P.iload_n (dq dtX1_reverse 32 rfl) rfl ?_
      refine P.isub (dq dtX1_reverse 33 rfl) ?_
      refine P.iload_n (dq dtX1_reverse 34 rfl) rfl ?_
      refine P.iast (dq dtX1_reverse 35 rfl) (by repeat (first | assumption | exact up_s | rw [up_n (by first | assumption | (apply Ne.symm; assumption) | decide | omega)])) (by omega) (by omega) (by omega) ?_
      refine P.iinc (dq dtX1_reverse 36 rfl) rfl (by decide) rfl rfl ?_
      refine P.goto (t := 2) (dq dtX1_reverse 37 rfl) rfl ?_
      rw [up_up, up_up]
      refine P.keep [0, 1] ?_
      rw [show upI (rvF f n k) k (rvF f n k (n - 1 - k)) = upI (rvF f n k) k (rvF f n k (n - 1 - k)) from rfl, rvF_step (by omega) (by omega)]
      exact ih (k + 1) (by omega) (by omega)
/-- Letters.reverse -/
theorem ct_X1_reverse {x : CM} {d N : Nat} {σ : PH} {Q : PQ} {q a r : Nat} {n : Int} {f : Int → Int} (hq : σ q = pcO 1 [vR a, vI n]) (ha : σ a = pcI 0 r f) (hn : 0 ≤ n ∧ n ≤ r ∧ r < 1000) (h : Q none (up σ a (pcI 0 r (rvF f n (n / 2))))) : Call x d 0 0 mX1_reverse [vR q] N σ Q := by
  refine Call.of mcX1_reverse (Nat.le_of_ble_eq_true rfl) (fun y hy => ?_)
  subst hy
  refine P.iconst (dq dtX1_reverse 0 rfl) ?_
  refine P.istore_n (dq dtX1_reverse 1 rfl) (by decide) rfl rfl ?_
  rw [← up_id ha, ← rvF_0 (f := f) (n := n)]
  exact lp_reverse hq ha hn h (n / 2 + 1).toNat 0 (by omega) (by omega)
end
section
theorem up_sw {σ : PH} {q a : Nat} {e e' e1 e2 : PC} (h : q ≠ a) : up (up (up (up σ a e) q e1) a e') q e2 = up (up (up σ a e) a e') q e2 := by
  funext j; simp only [up]; repeat' split
  all_goals first | rfl | (exfalso; omega)
theorem lp_putAll {x : CX} {d N : Nat} {σ : PH} {Q : PQ} {q a r : Nat} {n : Int} {f : Int → Int} (hq : σ q = pcO 1 [vR a, vI n]) (ha : σ a = pcI 0 r f) (hn : 0 ≤ n ∧ n ≤ r ∧ r < 1000) {q2 a2 r2 : Nat} {m : Int} {g : Int → Int} (hq2 : σ q2 = pcO 1 [vR a2, vI m]) (ha2 : σ a2 = pcI 0 r2 g) (hm2 : 0 ≤ m ∧ m ≤ r2 ∧ r2 < 1000) (hd : 3 ≤ d) (hqq : q ≠ q2) (haa : a ≠ a2) (hr : n + m ≤ r) (h : Q none (up (up σ a (pcI 0 r (apF f g n m))) q (pcO 1 [vR a, vI (n + m)]))) : ∀ (t : Nat) (k : Int), 0 ≤ k ∧ k ≤ m → m - k < t → P x d mX1_putAll Q (0, 0) 7 [some (vR q), some (vR q2), some (vI m), some (vI k)] [] N (up (up σ a (pcI 0 r (apF f g n k))) q (pcO 1 [vR a, vI (n + k)])) := by
  intro t
  induction t with
  | zero =>
    intro k hk hm
    exfalso; omega
  | succ t ih =>
    intro k hk hm
    have hne : q ≠ a := ne_oI hq ha
    have h1 : q2 ≠ a := ne_oI hq2 ha
    have h2 : a2 ≠ q := Ne.symm (ne_oI hq ha2)
    refine P.iload_n (dq dtX1_putAll 5 rfl) rfl ?_
    refine P.iload_n (dq dtX1_putAll 6 rfl) rfl ?_
    refine P.icmp_ge (t := 27) (dq dtX1_putAll 7 rfl) rfl (by omega) (by omega) (fun c_9 => ?_) (fun c_9 => ?_)
    · refine P.vret (dq dtX1_putAll 15 rfl) rfl rfl rfl ?_
      obtain rfl : k = m := by omega
      exact h
    · refine P.aload_n (dq dtX1_putAll 8 rfl) rfl ?_
      refine P.aload_n (dq dtX1_putAll 9 rfl) rfl ?_
      refine P.iload_n (dq dtX1_putAll 10 rfl) rfl ?_
      refine P.callV1 (M' := mX1_at) (d' := d - 1) mlX1_33 mcX1_at mvX1_at (dq dtX1_putAll 11 rfl) (by omega) (Nat.le_of_ble_eq_true rfl) (by repeat (first | assumption | exact up_s | rw [up_n (by first | assumption | (apply Ne.symm; assumption) | decide | omega)])) rfl ?_
      refine ct_X1_at (by repeat (first | assumption | exact up_s | rw [up_n (by first | assumption | (apply Ne.symm; assumption) | decide | omega)])) (by repeat (first | assumption | exact up_s | rw [up_n (by first | assumption | (apply Ne.symm; assumption) | decide | omega)])) (by omega) (by omega) (fun n_15 => ?_) (fun n_15 => absurd (by omega) n_15)
      refine P.callV1 (M' := mX1_put) (d' := d - 1) mlX1_37 mcX1_put mvX1_put (dq dtX1_putAll 12 rfl) (by omega) (Nat.le_of_ble_eq_true rfl) (by repeat (first | assumption | exact up_s | rw [up_n (by first | assumption | (apply Ne.symm; assumption) | decide | omega)])) rfl ?_
      refine ct_X1_put (by repeat (first | assumption | exact up_s | rw [up_n (by first | assumption | (apply Ne.symm; assumption) | decide | omega)])) (by repeat (first | assumption | exact up_s | rw [up_n (by first | assumption | (apply Ne.symm; assumption) | decide | omega)])) (by omega) (by omega) (by omega) ?_
      refine P.iinc (dq dtX1_putAll 13 rfl) rfl (by decide) rfl rfl ?_
      refine P.goto (t := 7) (dq dtX1_putAll 14 rfl) rfl ?_
      rw [up_sw hne, up_up, apF_step (by omega), show n + k + 1 = n + (k + 1) by omega]
      exact ih (k + 1) (by omega) (by omega)
/-- Letters.putAll of another row -/
theorem ct_X1_putAll {x : CM} {d N : Nat} {σ : PH} {Q : PQ} {q a r : Nat} {n : Int} {f : Int → Int} (hq : σ q = pcO 1 [vR a, vI n]) (ha : σ a = pcI 0 r f) (hn : 0 ≤ n ∧ n ≤ r ∧ r < 1000) {q2 a2 r2 : Nat} {m : Int} {g : Int → Int} (hq2 : σ q2 = pcO 1 [vR a2, vI m]) (ha2 : σ a2 = pcI 0 r2 g) (hm2 : 0 ≤ m ∧ m ≤ r2 ∧ r2 < 1000) (hd : 3 ≤ d) (hqq : q ≠ q2) (haa : a ≠ a2) (hr : n + m ≤ r) (h : Q none (up (up σ a (pcI 0 r (apF f g n m))) q (pcO 1 [vR a, vI (n + m)]))) : Call x d 0 0 mX1_putAll [vR q, vR q2] N σ Q := by
  refine Call.of mcX1_putAll (Nat.le_of_ble_eq_true rfl) (fun y hy => ?_)
  subst hy
  refine P.aload_n (dq dtX1_putAll 0 rfl) rfl ?_
  refine P.get flX1_9 (dq dtX1_putAll 1 rfl) (by repeat (first | assumption | exact up_s | rw [up_n (by first | assumption | (apply Ne.symm; assumption) | decide | omega)])) (by rfl) ?_
  refine P.istore_n (dq dtX1_putAll 2 rfl) (by decide) rfl rfl ?_
  refine P.iconst (dq dtX1_putAll 3 rfl) ?_
  refine P.istore_n (dq dtX1_putAll 4 rfl) (by decide) rfl rfl ?_
  have e0 : σ = up (up σ a (pcI 0 r (apF f g n 0))) q (pcO 1 [vR a, vI (n + 0)]) := by rw [apF_0, up_id ha, Int.add_zero, up_id hq]
  rw [e0]
  exact lp_putAll hq ha hn hq2 ha2 hm2 hd hqq haa hr h (m + 1).toNat 0 (by omega) (by omega)
theorem lp_putSelf {x : CX} {d N : Nat} {σ : PH} {Q : PQ} {q a r : Nat} {n : Int} {f : Int → Int} (hq : σ q = pcO 1 [vR a, vI n]) (ha : σ a = pcI 0 r f) (hn : 0 ≤ n ∧ n ≤ r ∧ r < 1000) (hd : 3 ≤ d) (hr : n + n ≤ r) (h : Q none (up (up σ a (pcI 0 r (apF f f n n))) q (pcO 1 [vR a, vI (n + n)]))) : ∀ (t : Nat) (k : Int), 0 ≤ k ∧ k ≤ n → n - k < t → P x d mX1_putAll Q (0, 0) 7 [some (vR q), some (vR q), some (vI n), some (vI k)] [] N (up (up σ a (pcI 0 r (apF f f n k))) q (pcO 1 [vR a, vI (n + k)])) := by
  intro t
  induction t with
  | zero =>
    intro k hk hm
    exfalso; omega
  | succ t ih =>
    intro k hk hm
    have hne : q ≠ a := ne_oI hq ha
    refine P.iload_n (dq dtX1_putAll 5 rfl) rfl ?_
    refine P.iload_n (dq dtX1_putAll 6 rfl) rfl ?_
    refine P.icmp_ge (t := 27) (dq dtX1_putAll 7 rfl) rfl (by omega) (by omega) (fun c_9 => ?_) (fun c_9 => ?_)
    · refine P.vret (dq dtX1_putAll 15 rfl) rfl rfl rfl ?_
      obtain rfl : k = n := by omega
      exact h
    · refine P.aload_n (dq dtX1_putAll 8 rfl) rfl ?_
      refine P.aload_n (dq dtX1_putAll 9 rfl) rfl ?_
      refine P.iload_n (dq dtX1_putAll 10 rfl) rfl ?_
      refine P.callV1 (M' := mX1_at) (d' := d - 1) mlX1_33 mcX1_at mvX1_at (dq dtX1_putAll 11 rfl) (by omega) (Nat.le_of_ble_eq_true rfl) (by repeat (first | assumption | exact up_s | rw [up_n (by first | assumption | (apply Ne.symm; assumption) | decide | omega)])) rfl ?_
      refine ct_X1_at (by repeat (first | assumption | exact up_s | rw [up_n (by first | assumption | (apply Ne.symm; assumption) | decide | omega)])) (by repeat (first | assumption | exact up_s | rw [up_n (by first | assumption | (apply Ne.symm; assumption) | decide | omega)])) (by omega) (by omega) (fun n_15 => ?_) (fun n_15 => absurd (by omega) n_15)
      refine P.callV1 (M' := mX1_put) (d' := d - 1) mlX1_37 mcX1_put mvX1_put (dq dtX1_putAll 12 rfl) (by omega) (Nat.le_of_ble_eq_true rfl) (by repeat (first | assumption | exact up_s | rw [up_n (by first | assumption | (apply Ne.symm; assumption) | decide | omega)])) rfl ?_
      refine ct_X1_put (by repeat (first | assumption | exact up_s | rw [up_n (by first | assumption | (apply Ne.symm; assumption) | decide | omega)])) (by repeat (first | assumption | exact up_s | rw [up_n (by first | assumption | (apply Ne.symm; assumption) | decide | omega)])) (by omega) (by omega) (by omega) ?_
      refine P.iinc (dq dtX1_putAll 13 rfl) rfl (by decide) rfl rfl ?_
      refine P.goto (t := 7) (dq dtX1_putAll 14 rfl) rfl ?_
      rw [up_sw hne, up_up, show apF f f n k k = f k from if_neg (by omega), apF_step (by omega), show n + k + 1 = n + (k + 1) by omega]
      exact ih (k + 1) (by omega) (by omega)
/-- Letters.putAll of itself -/
theorem ct_X1_putSelf {x : CM} {d N : Nat} {σ : PH} {Q : PQ} {q a r : Nat} {n : Int} {f : Int → Int} (hq : σ q = pcO 1 [vR a, vI n]) (ha : σ a = pcI 0 r f) (hn : 0 ≤ n ∧ n ≤ r ∧ r < 1000) (hd : 3 ≤ d) (hr : n + n ≤ r) (h : Q none (up (up σ a (pcI 0 r (apF f f n n))) q (pcO 1 [vR a, vI (n + n)]))) : Call x d 0 0 mX1_putAll [vR q, vR q] N σ Q := by
  refine Call.of mcX1_putAll (Nat.le_of_ble_eq_true rfl) (fun y hy => ?_)
  subst hy
  refine P.aload_n (dq dtX1_putAll 0 rfl) rfl ?_
  refine P.get flX1_9 (dq dtX1_putAll 1 rfl) (by repeat (first | assumption | exact up_s | rw [up_n (by first | assumption | (apply Ne.symm; assumption) | decide | omega)])) (by rfl) ?_
  refine P.istore_n (dq dtX1_putAll 2 rfl) (by decide) rfl rfl ?_
  refine P.iconst (dq dtX1_putAll 3 rfl) ?_
  refine P.istore_n (dq dtX1_putAll 4 rfl) (by decide) rfl rfl ?_
  have e0 : σ = up (up σ a (pcI 0 r (apF f f n 0))) q (pcO 1 [vR a, vI (n + 0)]) := by rw [apF_0, up_id ha, Int.add_zero, up_id hq]
  rw [e0]
  exact lp_putSelf hq ha hn hd hr h (n + 1).toNat 0 (by omega) (by omega)
/-- Integer.compare -/
theorem ct_icompare {x : CM} {d N : Nat} {σ : PH} {Q : PQ} {a c : Int} (ha : inR a) (hc : inR c) (h : Q (some (vI (if a < c then -1 else if a = c then 0 else 1))) σ) : Call x d 0 0 mJ6_compare_7cf53 [vI a, vI c] N σ Q := by
  refine Call.of mcJ6_compare_7cf53 (Nat.le_of_ble_eq_true rfl) (fun y hy => ?_)
  subst hy
  refine P.iload_n (dq dtJ6_compare_7cf53 0 rfl) rfl ?_
  refine P.iload_n (dq dtJ6_compare_7cf53 1 rfl) rfl ?_
  refine P.icmp_ge (t := 9) (dq dtJ6_compare_7cf53 2 rfl) rfl (by omega) (by omega) (fun c_2 => ?_) (fun c_2 => ?_)
  · refine P.iload_n (dq dtJ6_compare_7cf53 5 rfl) rfl ?_
    refine P.iload_n (dq dtJ6_compare_7cf53 6 rfl) rfl ?_
    refine P.icmp_ne (t := 18) (dq dtJ6_compare_7cf53 7 rfl) rfl (by omega) (by omega) (fun c_11 => ?_) (fun c_11 => ?_)
    · refine P.iconst (dq dtJ6_compare_7cf53 10 rfl) ?_
      refine P.iret (dq dtJ6_compare_7cf53 11 rfl) rfl rfl rfl ?_
      first | (rw [if_pos (show a < c by omega)] at h; exact h) | (rw [if_neg (show ¬ a < c by omega), if_pos (show a = c by omega)] at h; exact h) | (rw [if_neg (show ¬ a < c by omega), if_neg (show ¬ a = c by omega)] at h; exact h)
    · refine P.iconst (dq dtJ6_compare_7cf53 8 rfl) ?_
      refine P.goto (t := 19) (dq dtJ6_compare_7cf53 9 rfl) rfl ?_
      refine P.iret (dq dtJ6_compare_7cf53 11 rfl) rfl rfl rfl ?_
      first | (rw [if_pos (show a < c by omega)] at h; exact h) | (rw [if_neg (show ¬ a < c by omega), if_pos (show a = c by omega)] at h; exact h) | (rw [if_neg (show ¬ a < c by omega), if_neg (show ¬ a = c by omega)] at h; exact h)
  · refine P.iconst (dq dtJ6_compare_7cf53 3 rfl) ?_
    refine P.goto (t := 19) (dq dtJ6_compare_7cf53 4 rfl) rfl ?_
    refine P.iret (dq dtJ6_compare_7cf53 11 rfl) rfl rfl rfl ?_
    first | (rw [if_pos (show a < c by omega)] at h; exact h) | (rw [if_neg (show ¬ a < c by omega), if_pos (show a = c by omega)] at h; exact h) | (rw [if_neg (show ¬ a < c by omega), if_neg (show ¬ a = c by omega)] at h; exact h)
theorem lp_order {x : CX} {d N : Nat} {σ : PH} {Q : PQ} {q a r : Nat} {n : Int} {f : Int → Int} (hq : σ q = pcO 1 [vR a, vI n]) (ha : σ a = pcI 0 r f) (hn : 0 ≤ n ∧ n ≤ r ∧ r < 1000) {q2 a2 r2 : Nat} {m : Int} {g : Int → Int} (hq2 : σ q2 = pcO 1 [vR a2, vI m]) (ha2 : σ a2 = pcI 0 r2 g) (hm2 : 0 ≤ m ∧ m ≤ r2 ∧ r2 < 1000) (hf : ∀ i, 0 ≤ i ∧ i < n → inR (f i)) (hg : ∀ i, 0 ≤ i ∧ i < m → inR (g i)) (hd : 1 ≤ d) : ∀ (t : Nat) (k : Int), 0 < t → 0 ≤ k → (k + t = n + 1 ∧ n ≤ m) ∨ (k + t = m + 1 ∧ m ≤ n) → Q (some (vI (ordF f g n m (t - 1) k))) σ → P x d mX1_orderAgainst Q (0, 0) 2 [some (vR q), some (vR q2), some (vI k)] [] N σ := by
  intro t
  induction t with
  | zero =>
    intro k h00 hk ht h
    exfalso; omega
  | succ t ih =>
    intro k h00 hk ht h
    refine P.iload_n (dq dtX1_orderAgainst 2 rfl) rfl ?_
    refine P.aload_n (dq dtX1_orderAgainst 3 rfl) rfl ?_
    refine P.get flX1_9 (dq dtX1_orderAgainst 4 rfl) (by repeat (first | assumption | exact up_s | rw [up_n (by first | assumption | (apply Ne.symm; assumption) | decide | omega)])) (by rfl) ?_
    refine P.icmp_ge (t := 56) (dq dtX1_orderAgainst 5 rfl) rfl (by omega) (by omega) (fun c_7 => ?_) (fun c_7 => ?_)
    · obtain rfl : t = 0 := by omega
      have hx : ordF f g n m (0 + 1 - 1) k = if n < m then 0 else if n = m then 1 else 2 := rfl
      rw [hx] at h
      refine P.iconst (dq dtX1_orderAgainst 30 rfl) ?_
      refine P.aload_n (dq dtX1_orderAgainst 31 rfl) rfl ?_
      refine P.get flX1_9 (dq dtX1_orderAgainst 32 rfl) (by repeat (first | assumption | exact up_s | rw [up_n (by first | assumption | (apply Ne.symm; assumption) | decide | omega)])) (by rfl) ?_
      refine P.aload_n (dq dtX1_orderAgainst 33 rfl) rfl ?_
      refine P.get flX1_9 (dq dtX1_orderAgainst 34 rfl) (by repeat (first | assumption | exact up_s | rw [up_n (by first | assumption | (apply Ne.symm; assumption) | decide | omega)])) (by rfl) ?_
      refine P.callS2 (M' := mJ6_compare_7cf53) (d' := d - 1) mlX1_41 mcJ6_compare_7cf53 msJ6_compare_7cf53 (dq dtX1_orderAgainst 35 rfl) (by omega) (Nat.le_of_ble_eq_true rfl) ?_
      refine ct_icompare (by omega) (by omega) ?_
      refine P.iadd (dq dtX1_orderAgainst 36 rfl) ?_
      refine P.iret (dq dtX1_orderAgainst 37 rfl) rfl rfl rfl ?_
      rcases Int.lt_trichotomy n m with z | z | z
      · rw [if_pos z] at h ⊢
        exact h
      · rw [if_neg (by omega), if_pos z] at h ⊢
        exact h
      · rw [if_neg (by omega), if_neg (by omega)] at h ⊢
        exact h
    · refine P.iload_n (dq dtX1_orderAgainst 6 rfl) rfl ?_
      refine P.aload_n (dq dtX1_orderAgainst 7 rfl) rfl ?_
      refine P.get flX1_9 (dq dtX1_orderAgainst 8 rfl) (by repeat (first | assumption | exact up_s | rw [up_n (by first | assumption | (apply Ne.symm; assumption) | decide | omega)])) (by rfl) ?_
      refine P.icmp_ge (t := 56) (dq dtX1_orderAgainst 9 rfl) rfl (by omega) (by omega) (fun c_15 => ?_) (fun c_15 => ?_)
      · obtain rfl : t = 0 := by omega
        have hx : ordF f g n m (0 + 1 - 1) k = if n < m then 0 else if n = m then 1 else 2 := rfl
        rw [hx] at h
        refine P.iconst (dq dtX1_orderAgainst 30 rfl) ?_
        refine P.aload_n (dq dtX1_orderAgainst 31 rfl) rfl ?_
        refine P.get flX1_9 (dq dtX1_orderAgainst 32 rfl) (by repeat (first | assumption | exact up_s | rw [up_n (by first | assumption | (apply Ne.symm; assumption) | decide | omega)])) (by rfl) ?_
        refine P.aload_n (dq dtX1_orderAgainst 33 rfl) rfl ?_
        refine P.get flX1_9 (dq dtX1_orderAgainst 34 rfl) (by repeat (first | assumption | exact up_s | rw [up_n (by first | assumption | (apply Ne.symm; assumption) | decide | omega)])) (by rfl) ?_
        refine P.callS2 (M' := mJ6_compare_7cf53) (d' := d - 1) mlX1_41 mcJ6_compare_7cf53 msJ6_compare_7cf53 (dq dtX1_orderAgainst 35 rfl) (by omega) (Nat.le_of_ble_eq_true rfl) ?_
        refine ct_icompare (by omega) (by omega) ?_
        refine P.iadd (dq dtX1_orderAgainst 36 rfl) ?_
        refine P.iret (dq dtX1_orderAgainst 37 rfl) rfl rfl rfl ?_
        rcases Int.lt_trichotomy n m with z | z | z
        · rw [if_pos z] at h ⊢
          exact h
        · rw [if_neg (by omega), if_pos z] at h ⊢
          exact h
        · rw [if_neg (by omega), if_neg (by omega)] at h ⊢
          exact h
      · have f1 := hf k (by omega)
        have f2 := hg k (by omega)
        obtain ⟨t, rfl⟩ : ∃ u, t = u + 1 := ⟨t - 1, by omega⟩
        have hx : ordF f g n m (t + 1 + 1 - 1) k = if f k = g k then ordF f g n m t (k + 1) else if f k < g k then 0 else 2 := rfl
        rw [hx] at h
        refine P.aload_n (dq dtX1_orderAgainst 10 rfl) rfl ?_
        refine P.iload_n (dq dtX1_orderAgainst 11 rfl) rfl ?_
        refine P.callV1 (M' := mX1_at) (d' := d - 1) mlX1_33 mcX1_at mvX1_at (dq dtX1_orderAgainst 12 rfl) (by omega) (Nat.le_of_ble_eq_true rfl) (by repeat (first | assumption | exact up_s | rw [up_n (by first | assumption | (apply Ne.symm; assumption) | decide | omega)])) rfl ?_
        refine ct_X1_at (by repeat (first | assumption | exact up_s | rw [up_n (by first | assumption | (apply Ne.symm; assumption) | decide | omega)])) (by repeat (first | assumption | exact up_s | rw [up_n (by first | assumption | (apply Ne.symm; assumption) | decide | omega)])) (by omega) (by omega) (fun n_20 => ?_) (fun n_20 => absurd (by omega) n_20)
        refine P.aload_n (dq dtX1_orderAgainst 13 rfl) rfl ?_
        refine P.iload_n (dq dtX1_orderAgainst 14 rfl) rfl ?_
        refine P.callV1 (M' := mX1_at) (d' := d - 1) mlX1_33 mcX1_at mvX1_at (dq dtX1_orderAgainst 15 rfl) (by omega) (Nat.le_of_ble_eq_true rfl) (by repeat (first | assumption | exact up_s | rw [up_n (by first | assumption | (apply Ne.symm; assumption) | decide | omega)])) rfl ?_
        refine ct_X1_at (by repeat (first | assumption | exact up_s | rw [up_n (by first | assumption | (apply Ne.symm; assumption) | decide | omega)])) (by repeat (first | assumption | exact up_s | rw [up_n (by first | assumption | (apply Ne.symm; assumption) | decide | omega)])) (by omega) (by omega) (fun n_25 => ?_) (fun n_25 => absurd (by omega) n_25)
        refine P.icmp_eq (t := 50) (dq dtX1_orderAgainst 16 rfl) rfl (by omega) (by omega) (fun c_28 => ?_) (fun c_28 => ?_)
        · refine P.iinc (dq dtX1_orderAgainst 28 rfl) rfl (by decide) rfl rfl ?_
          refine P.goto (t := 2) (dq dtX1_orderAgainst 29 rfl) rfl ?_
          rw [if_pos (by omega)] at h
          exact ih (k + 1) (by omega) (by omega) (by omega) h
        · refine P.aload_n (dq dtX1_orderAgainst 17 rfl) rfl ?_
          refine P.iload_n (dq dtX1_orderAgainst 18 rfl) rfl ?_
          refine P.callV1 (M' := mX1_at) (d' := d - 1) mlX1_33 mcX1_at mvX1_at (dq dtX1_orderAgainst 19 rfl) (by omega) (Nat.le_of_ble_eq_true rfl) (by repeat (first | assumption | exact up_s | rw [up_n (by first | assumption | (apply Ne.symm; assumption) | decide | omega)])) rfl ?_
          refine ct_X1_at (by repeat (first | assumption | exact up_s | rw [up_n (by first | assumption | (apply Ne.symm; assumption) | decide | omega)])) (by repeat (first | assumption | exact up_s | rw [up_n (by first | assumption | (apply Ne.symm; assumption) | decide | omega)])) (by omega) (by omega) (fun n_33 => ?_) (fun n_33 => absurd (by omega) n_33)
          refine P.aload_n (dq dtX1_orderAgainst 20 rfl) rfl ?_
          refine P.iload_n (dq dtX1_orderAgainst 21 rfl) rfl ?_
          refine P.callV1 (M' := mX1_at) (d' := d - 1) mlX1_33 mcX1_at mvX1_at (dq dtX1_orderAgainst 22 rfl) (by omega) (Nat.le_of_ble_eq_true rfl) (by repeat (first | assumption | exact up_s | rw [up_n (by first | assumption | (apply Ne.symm; assumption) | decide | omega)])) rfl ?_
          refine ct_X1_at (by repeat (first | assumption | exact up_s | rw [up_n (by first | assumption | (apply Ne.symm; assumption) | decide | omega)])) (by repeat (first | assumption | exact up_s | rw [up_n (by first | assumption | (apply Ne.symm; assumption) | decide | omega)])) (by omega) (by omega) (fun n_38 => ?_) (fun n_38 => absurd (by omega) n_38)
          refine P.icmp_ge (t := 48) (dq dtX1_orderAgainst 23 rfl) rfl (by omega) (by omega) (fun c_41 => ?_) (fun c_41 => ?_)
          · refine P.iconst (dq dtX1_orderAgainst 26 rfl) ?_
            refine P.iret (dq dtX1_orderAgainst 27 rfl) rfl rfl rfl ?_
            first | (rw [if_neg (show ¬ f k = g k by omega), if_pos (show f k < g k by omega)] at h; exact h) | (rw [if_neg (show ¬ f k = g k by omega), if_neg (show ¬ f k < g k by omega)] at h; exact h)
          · refine P.iconst (dq dtX1_orderAgainst 24 rfl) ?_
            refine P.goto (t := 49) (dq dtX1_orderAgainst 25 rfl) rfl ?_
            refine P.iret (dq dtX1_orderAgainst 27 rfl) rfl rfl rfl ?_
            first | (rw [if_neg (show ¬ f k = g k by omega), if_pos (show f k < g k by omega)] at h; exact h) | (rw [if_neg (show ¬ f k = g k by omega), if_neg (show ¬ f k < g k by omega)] at h; exact h)
/-- Letters.orderAgainst -/
theorem ct_X1_orderAgainst {x : CM} {d N : Nat} {σ : PH} {Q : PQ} {q a r : Nat} {n : Int} {f : Int → Int} (hq : σ q = pcO 1 [vR a, vI n]) (ha : σ a = pcI 0 r f) (hn : 0 ≤ n ∧ n ≤ r ∧ r < 1000) {q2 a2 r2 : Nat} {m : Int} {g : Int → Int} (hq2 : σ q2 = pcO 1 [vR a2, vI m]) (ha2 : σ a2 = pcI 0 r2 g) (hm2 : 0 ≤ m ∧ m ≤ r2 ∧ r2 < 1000) (hf : ∀ i, 0 ≤ i ∧ i < n → inR (f i)) (hg : ∀ i, 0 ≤ i ∧ i < m → inR (g i)) (hd : 1 ≤ d) (h : Q (some (vI (ordF f g n m (min n m).toNat 0))) σ) : Call x d 0 0 mX1_orderAgainst [vR q, vR q2] N σ Q := by
  refine Call.of mcX1_orderAgainst (Nat.le_of_ble_eq_true rfl) (fun y hy => ?_)
  subst hy
  refine P.iconst (dq dtX1_orderAgainst 0 rfl) ?_
  refine P.istore_n (dq dtX1_orderAgainst 1 rfl) (by decide) rfl rfl ?_
  exact lp_order hq ha hn hq2 ha2 hm2 hf hg hd ((min n m).toNat + 1) 0 (by omega) (by omega) (by omega) h
theorem lp_hasAt {x : CX} {d N : Nat} {σ : PH} {Q : PQ} {q a r : Nat} {n : Int} {f : Int → Int} (hq : σ q = pcO 1 [vR a, vI n]) (ha : σ a = pcI 0 r f) (hn : 0 ≤ n ∧ n ≤ r ∧ r < 1000) {q2 a2 r2 : Nat} {m : Int} {g : Int → Int} (hq2 : σ q2 = pcO 1 [vR a2, vI m]) (ha2 : σ a2 = pcI 0 r2 g) (hm2 : 0 ≤ m ∧ m ≤ r2 ∧ r2 < 1000) (hf : ∀ i, 0 ≤ i ∧ i < n → inR (f i)) (hg : ∀ i, 0 ≤ i ∧ i < m → inR (g i)) (hd : 1 ≤ d) {u : Int} (hu : 0 ≤ u ∧ u + m ≤ n) : ∀ (t : Nat) (k : Int), 0 < t → 0 ≤ k → k + t = m + 1 → (eqF f g u (t - 1) k = true → Q (some (vI 1)) σ) → (eqF f g u (t - 1) k = false → Q (some (vI 0)) σ) → P x d mX1_hasAt Q (0, 0) 2 [some (vR q), some (vI u), some (vR q2), some (vI k)] [] N σ := by
  intro t
  induction t with
  | zero =>
    intro k h00 hk ht h1 h0
    exfalso; omega
  | succ t ih =>
    intro k h00 hk ht h1 h0
    refine P.iload_n (dq dtX1_hasAt 2 rfl) rfl ?_
    refine P.aload_n (dq dtX1_hasAt 3 rfl) rfl ?_
    refine P.get flX1_9 (dq dtX1_hasAt 4 rfl) (by repeat (first | assumption | exact up_s | rw [up_n (by first | assumption | (apply Ne.symm; assumption) | decide | omega)])) (by rfl) ?_
    refine P.icmp_ge (t := 33) (dq dtX1_hasAt 5 rfl) rfl (by omega) (by omega) (fun c_7 => ?_) (fun c_7 => ?_)
    · refine P.iconst (dq dtX1_hasAt 19 rfl) ?_
      refine P.zret (dq dtX1_hasAt 20 rfl) rfl rfl (by decide) rfl ?_
      obtain rfl : t = 0 := by omega
      exact h1 rfl
    · have f1 := hf (u + k) (by omega)
      have f2 := hg k (by omega)
      obtain ⟨t, rfl⟩ : ∃ w, t = w + 1 := ⟨t - 1, by omega⟩
      have hx : eqF f g u (t + 1 + 1 - 1) k = (decide (f (u + k) = g k) && eqF f g u t (k + 1)) := rfl
      rw [hx] at h1 h0
      refine P.aload_n (dq dtX1_hasAt 6 rfl) rfl ?_
      refine P.iload_n (dq dtX1_hasAt 7 rfl) rfl ?_
      refine P.iload_n (dq dtX1_hasAt 8 rfl) rfl ?_
      refine P.iadd (dq dtX1_hasAt 9 rfl) ?_
      refine P.callV1 (M' := mX1_at) (d' := d - 1) mlX1_33 mcX1_at mvX1_at (dq dtX1_hasAt 10 rfl) (by omega) (Nat.le_of_ble_eq_true rfl) (by repeat (first | assumption | exact up_s | rw [up_n (by first | assumption | (apply Ne.symm; assumption) | decide | omega)])) rfl ?_
      refine ct_X1_at (by repeat (first | assumption | exact up_s | rw [up_n (by first | assumption | (apply Ne.symm; assumption) | decide | omega)])) (by repeat (first | assumption | exact up_s | rw [up_n (by first | assumption | (apply Ne.symm; assumption) | decide | omega)])) (by omega) (by omega) (fun n_14 => ?_) (fun n_14 => absurd (by omega) n_14)
      refine P.aload_n (dq dtX1_hasAt 11 rfl) rfl ?_
      refine P.iload_n (dq dtX1_hasAt 12 rfl) rfl ?_
      refine P.callV1 (M' := mX1_at) (d' := d - 1) mlX1_33 mcX1_at mvX1_at (dq dtX1_hasAt 13 rfl) (by omega) (Nat.le_of_ble_eq_true rfl) (by repeat (first | assumption | exact up_s | rw [up_n (by first | assumption | (apply Ne.symm; assumption) | decide | omega)])) rfl ?_
      refine ct_X1_at (by repeat (first | assumption | exact up_s | rw [up_n (by first | assumption | (apply Ne.symm; assumption) | decide | omega)])) (by repeat (first | assumption | exact up_s | rw [up_n (by first | assumption | (apply Ne.symm; assumption) | decide | omega)])) (by omega) (by omega) (fun n_19 => ?_) (fun n_19 => absurd (by omega) n_19)
      refine P.icmp_eq (t := 27) (dq dtX1_hasAt 14 rfl) rfl (by omega) (by omega) (fun c_22 => ?_) (fun c_22 => ?_)
      · refine P.iinc (dq dtX1_hasAt 17 rfl) rfl (by decide) rfl rfl ?_
        refine P.goto (t := 2) (dq dtX1_hasAt 18 rfl) rfl ?_
        rw [decide_eq_true (show f (u + k) = g k by omega), Bool.true_and] at h1 h0
        exact ih (k + 1) (by omega) (by omega) (by omega) h1 h0
      · refine P.iconst (dq dtX1_hasAt 15 rfl) ?_
        refine P.zret (dq dtX1_hasAt 16 rfl) rfl rfl (by decide) rfl ?_
        exact h0 (by rw [decide_eq_false (show ¬ f (u + k) = g k by omega), Bool.false_and])
/-- Letters.hasAt -/
theorem ct_X1_hasAt {x : CM} {d N : Nat} {σ : PH} {Q : PQ} {q a r : Nat} {n : Int} {f : Int → Int} (hq : σ q = pcO 1 [vR a, vI n]) (ha : σ a = pcI 0 r f) (hn : 0 ≤ n ∧ n ≤ r ∧ r < 1000) {q2 a2 r2 : Nat} {m : Int} {g : Int → Int} (hq2 : σ q2 = pcO 1 [vR a2, vI m]) (ha2 : σ a2 = pcI 0 r2 g) (hm2 : 0 ≤ m ∧ m ≤ r2 ∧ r2 < 1000) (hf : ∀ i, 0 ≤ i ∧ i < n → inR (f i)) (hg : ∀ i, 0 ≤ i ∧ i < m → inR (g i)) (hd : 1 ≤ d) {u : Int} (hu : 0 ≤ u ∧ u + m ≤ n) (h1 : eqF f g u m.toNat 0 = true → Q (some (vI 1)) σ) (h0 : eqF f g u m.toNat 0 = false → Q (some (vI 0)) σ) : Call x d 0 0 mX1_hasAt [vR q, vI u, vR q2] N σ Q := by
  refine Call.of mcX1_hasAt (Nat.le_of_ble_eq_true rfl) (fun y hy => ?_)
  subst hy
  refine P.iconst (dq dtX1_hasAt 0 rfl) ?_
  refine P.istore_n (dq dtX1_hasAt 1 rfl) (by decide) rfl rfl ?_
  exact lp_hasAt hq ha hn hq2 ha2 hm2 hf hg hd hu (m.toNat + 1) 0 (by omega) (by omega) (by omega) h1 h0
theorem lp_timesOf {x : CX} {d N : Nat} {σ : PH} {Q : PQ} {q a r : Nat} {n : Int} {f : Int → Int} (hq : σ q = pcO 1 [vR a, vI n]) (ha : σ a = pcI 0 r f) (hn : 0 ≤ n ∧ n ≤ r ∧ r < 1000) {q2 a2 r2 : Nat} {m : Int} {g : Int → Int} (hq2 : σ q2 = pcO 1 [vR a2, vI m]) (ha2 : σ a2 = pcI 0 r2 g) (hm2 : 0 ≤ m ∧ m ≤ r2 ∧ r2 < 1000) (hf : ∀ i, 0 ≤ i ∧ i < n → inR (f i)) (hg : ∀ i, 0 ≤ i ∧ i < m → inR (g i)) (hd : 2 ≤ d) (hm0 : 0 < m) : ∀ (t : Nat) (u c : Int), 0 < t → 0 ≤ u → (0 ≤ c ∧ c ≤ u) → (u + t = n - m + 2 ∨ (t = 1 ∧ n - m + 1 ≤ u ∧ u ≤ 1000)) → Q (some (vI (c + tmF f g m.toNat (t - 1) u))) σ → P x d mX1_timesOf Q (0, 0) 13 [some (vR q), some (vR q2), some (vI c), some (vI u)] [] N σ := by
  intro t
  induction t with
  | zero =>
    intro u c h00 hu hc ht h
    exfalso; omega
  | succ t ih =>
    intro u c h00 hu hc ht h
    refine P.iload_n (dq dtX1_timesOf 9 rfl) rfl ?_
    refine P.aload_n (dq dtX1_timesOf 10 rfl) rfl ?_
    refine P.get flX1_9 (dq dtX1_timesOf 11 rfl) (by repeat (first | assumption | exact up_s | rw [up_n (by first | assumption | (apply Ne.symm; assumption) | decide | omega)])) (by rfl) ?_
    refine P.iadd (dq dtX1_timesOf 12 rfl) ?_
    refine P.aload_n (dq dtX1_timesOf 13 rfl) rfl ?_
    refine P.get flX1_9 (dq dtX1_timesOf 14 rfl) (by repeat (first | assumption | exact up_s | rw [up_n (by first | assumption | (apply Ne.symm; assumption) | decide | omega)])) (by rfl) ?_
    refine P.icmp_gt (t := 44) (dq dtX1_timesOf 15 rfl) rfl (by omega) (by omega) (fun c_23 => ?_) (fun c_23 => ?_)
    · refine P.iload_n (dq dtX1_timesOf 24 rfl) rfl ?_
      refine P.iret (dq dtX1_timesOf 25 rfl) rfl rfl rfl ?_
      obtain rfl : t = 0 := by omega
      have hx : tmF f g m.toNat (0 + 1 - 1) u = 0 := rfl
      rw [hx, Int.add_zero] at h
      exact h
    · obtain ⟨t, rfl⟩ : ∃ w, t = w + 1 := ⟨t - 1, by omega⟩
      have hx : tmF f g m.toNat (t + 1 + 1 - 1) u = (if eqF f g u m.toNat 0 = true then 1 else 0) + tmF f g m.toNat t (u + 1) := rfl
      rw [hx] at h
      refine P.aload_n (dq dtX1_timesOf 16 rfl) rfl ?_
      refine P.iload_n (dq dtX1_timesOf 17 rfl) rfl ?_
      refine P.aload_n (dq dtX1_timesOf 18 rfl) rfl ?_
      refine P.callV2 (M' := mX1_hasAt) (d' := d - 1) mlX1_46 mcX1_hasAt mvX1_hasAt (dq dtX1_timesOf 19 rfl) (by omega) (Nat.le_of_ble_eq_true rfl) (by repeat (first | assumption | exact up_s | rw [up_n (by first | assumption | (apply Ne.symm; assumption) | decide | omega)])) rfl ?_
      refine ct_X1_hasAt hq ha hn hq2 ha2 hm2 hf hg (by omega) (by omega) (fun n_29 => ?_) (fun n_29 => ?_)
      · refine P.if_eq (t := 38) (dq dtX1_timesOf 20 rfl) rfl (by omega) (fun h9 => absurd h9 (by decide)) (fun _ => ?_)
        refine P.iinc (dq dtX1_timesOf 21 rfl) rfl (by decide) rfl rfl ?_
        refine P.iinc (dq dtX1_timesOf 22 rfl) rfl (by decide) rfl rfl ?_
        refine P.goto (t := 13) (dq dtX1_timesOf 23 rfl) rfl ?_
        first | (rw [if_pos n_29, ← Int.add_assoc] at h; exact ih (u + 1) (c + 1) (by omega) (by omega) (by omega) (by omega) h) | (rw [n_29, if_neg (by decide), Int.zero_add] at h; exact ih (u + 1) c (by omega) (by omega) (by omega) (by omega) h)
      · refine P.if_eq (t := 38) (dq dtX1_timesOf 20 rfl) rfl (by omega) (fun _ => ?_) (fun h9 => absurd h9 (by decide))
        refine P.iinc (dq dtX1_timesOf 22 rfl) rfl (by decide) rfl rfl ?_
        refine P.goto (t := 13) (dq dtX1_timesOf 23 rfl) rfl ?_
        first | (rw [if_pos n_29, ← Int.add_assoc] at h; exact ih (u + 1) (c + 1) (by omega) (by omega) (by omega) (by omega) h) | (rw [n_29, if_neg (by decide), Int.zero_add] at h; exact ih (u + 1) c (by omega) (by omega) (by omega) (by omega) h)
/-- Letters.timesOf -/
theorem ct_X1_timesOf {x : CM} {d N : Nat} {σ : PH} {Q : PQ} {q a r : Nat} {n : Int} {f : Int → Int} (hq : σ q = pcO 1 [vR a, vI n]) (ha : σ a = pcI 0 r f) (hn : 0 ≤ n ∧ n ≤ r ∧ r < 1000) {q2 a2 r2 : Nat} {m : Int} {g : Int → Int} (hq2 : σ q2 = pcO 1 [vR a2, vI m]) (ha2 : σ a2 = pcI 0 r2 g) (hm2 : 0 ≤ m ∧ m ≤ r2 ∧ r2 < 1000) (hf : ∀ i, 0 ≤ i ∧ i < n → inR (f i)) (hg : ∀ i, 0 ≤ i ∧ i < m → inR (g i)) (hd : 2 ≤ d) (h : Q (some (vI (if m = 0 then 0 else tmF f g m.toNat (n - m + 1).toNat 0))) σ) : Call x d 0 0 mX1_timesOf [vR q, vR q2] N σ Q := by
  refine Call.of mcX1_timesOf (Nat.le_of_ble_eq_true rfl) (fun y hy => ?_)
  subst hy
  refine P.aload_n (dq dtX1_timesOf 0 rfl) rfl ?_
  refine P.get flX1_9 (dq dtX1_timesOf 1 rfl) (by repeat (first | assumption | exact up_s | rw [up_n (by first | assumption | (apply Ne.symm; assumption) | decide | omega)])) (by rfl) ?_
  refine P.if_ne (t := 9) (dq dtX1_timesOf 2 rfl) rfl (by omega) (fun c_4 => ?_) (fun c_4 => ?_)
  · rw [if_neg (show ¬ m = 0 by omega), ← Int.zero_add (tmF _ _ _ _ _)] at h
    refine P.iconst (dq dtX1_timesOf 5 rfl) ?_
    refine P.istore_n (dq dtX1_timesOf 6 rfl) (by decide) rfl rfl ?_
    refine P.iconst (dq dtX1_timesOf 7 rfl) ?_
    refine P.istore_n (dq dtX1_timesOf 8 rfl) (by decide) rfl rfl ?_
    exact lp_timesOf hq ha hn hq2 ha2 hm2 hf hg hd (by omega) ((n - m + 1).toNat + 1) 0 0 (by omega) (by omega) (by omega) (by omega) h
  · rw [if_pos (show m = 0 by omega)] at h
    refine P.iconst (dq dtX1_timesOf 3 rfl) ?_
    refine P.iret (dq dtX1_timesOf 4 rfl) rfl rfl rfl ?_
    exact h
theorem lp_numberIn {x : CX} {d N : Nat} {σ : PH} {Q : PQ} {q a r : Nat} {n : Int} {f : Int → Int} (hq : σ q = pcO 1 [vR a, vI n]) (ha : σ a = pcI 0 r f) (hn : 0 ≤ n ∧ n ≤ r ∧ r < 1000) (hf : ∀ i, 0 ≤ i ∧ i < n → inR (f i)) (hd : 1 ≤ d) {u w mo : Int} (hu : 0 ≤ u ∧ u ≤ w ∧ w ≤ n) (hmo : inR mo) : ∀ (t : Nat) (k v : Int), 0 < t → u ≤ k → k + t = w + 1 → Q (some (vI (dgF f (t - 1) k v))) σ → P x d mX1_numberIn Q (0, 0) 20 [some (vR q), some (vI u), some (vI w), some (vI mo), some (vI v), some (vI k)] [] N σ := by
  intro t
  induction t with
  | zero =>
    intro k v h00 hk ht h
    exfalso; omega
  | succ t ih =>
    intro k v h00 hk ht h
    refine P.iload (dq dtX1_numberIn 14 rfl) rfl ?_
    refine P.iload_n (dq dtX1_numberIn 15 rfl) rfl ?_
    refine P.icmp_ge (t := 63) (dq dtX1_numberIn 16 rfl) rfl (by omega) (by omega) (fun c_23 => ?_) (fun c_23 => ?_)
    · refine P.iload (dq dtX1_numberIn 36 rfl) rfl ?_
      refine P.iret (dq dtX1_numberIn 37 rfl) rfl rfl rfl ?_
      obtain rfl : t = 0 := by omega
      exact h
    · have f1 := hf k (by omega)
      obtain ⟨t, rfl⟩ : ∃ z, t = z + 1 := ⟨t - 1, by omega⟩
      have hx : dgF f (t + 1 + 1 - 1) k v = if 48 ≤ f k ∧ f k ≤ 57 then dgF f t (k + 1) (10 * v + f k - 48) else -1 := rfl
      rw [hx] at h
      refine P.aload_n (dq dtX1_numberIn 17 rfl) rfl ?_
      refine P.iload (dq dtX1_numberIn 18 rfl) rfl ?_
      refine P.callV1 (M' := mX1_at) (d' := d - 1) mlX1_33 mcX1_at mvX1_at (dq dtX1_numberIn 19 rfl) (by omega) (Nat.le_of_ble_eq_true rfl) (by repeat (first | assumption | exact up_s | rw [up_n (by first | assumption | (apply Ne.symm; assumption) | decide | omega)])) rfl ?_
      refine ct_X1_at (by repeat (first | assumption | exact up_s | rw [up_n (by first | assumption | (apply Ne.symm; assumption) | decide | omega)])) (by repeat (first | assumption | exact up_s | rw [up_n (by first | assumption | (apply Ne.symm; assumption) | decide | omega)])) (by omega) (by omega) (fun n_29 => ?_) (fun n_29 => absurd (by omega) n_29)
      refine P.callSN1 (M' := mX6_isDigit) (d' := d - 1) nlX1_72 mcX6_isDigit msX6_isDigit (dq dtX1_numberIn 20 rfl) (by omega) (Nat.le_of_ble_eq_true rfl) ?_
      refine ct_X6_isDigit (by omega) (fun n_32 => ?_) (fun n_32 => ?_)
      · refine P.if_ne (t := 40) (dq dtX1_numberIn 21 rfl) rfl (by omega) (fun _ => ?_) (fun h9 => absurd h9 (by decide))
        refine P.bipush (dq dtX1_numberIn 24 rfl) rfl ?_
        refine P.iload (dq dtX1_numberIn 25 rfl) rfl ?_
        refine P.imul (dq dtX1_numberIn 26 rfl) ?_
        refine P.aload_n (dq dtX1_numberIn 27 rfl) rfl ?_
        refine P.iload (dq dtX1_numberIn 28 rfl) rfl ?_
        refine P.callV1 (M' := mX1_at) (d' := d - 1) mlX1_33 mcX1_at mvX1_at (dq dtX1_numberIn 29 rfl) (by omega) (Nat.le_of_ble_eq_true rfl) (by repeat (first | assumption | exact up_s | rw [up_n (by first | assumption | (apply Ne.symm; assumption) | decide | omega)])) rfl ?_
        refine ct_X1_at (by repeat (first | assumption | exact up_s | rw [up_n (by first | assumption | (apply Ne.symm; assumption) | decide | omega)])) (by repeat (first | assumption | exact up_s | rw [up_n (by first | assumption | (apply Ne.symm; assumption) | decide | omega)])) (by omega) (by omega) (fun n_48 => ?_) (fun n_48 => absurd (by omega) n_48)
        refine P.iadd (dq dtX1_numberIn 30 rfl) ?_
        refine P.bipush (dq dtX1_numberIn 31 rfl) rfl ?_
        refine P.isub (dq dtX1_numberIn 32 rfl) ?_
        refine P.istore (dq dtX1_numberIn 33 rfl) (by decide) rfl rfl ?_
        refine P.iinc (dq dtX1_numberIn 34 rfl) rfl (by decide) rfl rfl ?_
        refine P.goto (t := 20) (dq dtX1_numberIn 35 rfl) rfl ?_
        rw [if_pos n_32] at h
        exact ih (k + 1) _ (by omega) (by omega) (by omega) h
      · refine P.if_ne (t := 40) (dq dtX1_numberIn 21 rfl) rfl (by omega) (fun h9 => absurd h9 (by decide)) (fun _ => ?_)
        refine P.iconst (dq dtX1_numberIn 22 rfl) ?_
        refine P.iret (dq dtX1_numberIn 23 rfl) rfl rfl rfl ?_
        rw [if_neg n_32] at h
        exact h
end
section
/-- Letters.numberIn -/
theorem ct_X1_numberIn {x : CM} {d N : Nat} {σ : PH} {Q : PQ} {q a r : Nat} {n : Int} {f : Int → Int} (hq : σ q = pcO 1 [vR a, vI n]) (ha : σ a = pcI 0 r f) (hn : 0 ≤ n ∧ n ≤ r ∧ r < 1000) (hf : ∀ i, 0 ≤ i ∧ i < n → inR (f i)) (hd : 1 ≤ d) {u w mo : Int} (hu : 0 ≤ u ∧ w ≤ n ∧ inR w ∧ inR u) (hmo : 0 ≤ mo ∧ mo ≤ 100) (h1 : ¬ (u < w ∧ w - u ≤ mo) → Q (some (vI (-1))) σ) (h2 : u < w ∧ w - u ≤ mo → Q (some (vI (dgF f (w - u).toNat u 0))) σ) : Call x d 0 0 mX1_numberIn [vR q, vI u, vI w, vI mo] N σ Q := by
  refine Call.of mcX1_numberIn (Nat.le_of_ble_eq_true rfl) (fun y hy => ?_)
  subst hy
  refine P.iload_n (dq dtX1_numberIn 0 rfl) rfl ?_
  refine P.iload_n (dq dtX1_numberIn 1 rfl) rfl ?_
  refine P.icmp_le (t := 12) (dq dtX1_numberIn 2 rfl) rfl (by omega) (by omega) (fun c_2 => ?_) (fun c_2 => ?_)
  · refine P.iconst (dq dtX1_numberIn 8 rfl) ?_
    refine P.iret (dq dtX1_numberIn 9 rfl) rfl rfl rfl ?_
    exact h1 (by omega)
  · refine P.iload_n (dq dtX1_numberIn 3 rfl) rfl ?_
    refine P.iload_n (dq dtX1_numberIn 4 rfl) rfl ?_
    refine P.isub (dq dtX1_numberIn 5 rfl) ?_
    refine P.iload_n (dq dtX1_numberIn 6 rfl) rfl ?_
    refine P.icmp_le (t := 14) (dq dtX1_numberIn 7 rfl) rfl (by omega) (by omega) (fun c_9 => ?_) (fun c_9 => ?_)
    · refine P.iconst (dq dtX1_numberIn 10 rfl) ?_
      refine P.istore (dq dtX1_numberIn 11 rfl) (by decide) rfl rfl ?_
      refine P.iload_n (dq dtX1_numberIn 12 rfl) rfl ?_
      refine P.istore (dq dtX1_numberIn 13 rfl) (by decide) rfl rfl ?_
      exact lp_numberIn hq ha hn hf hd (by omega) (by omega) ((w - u).toNat + 1) u 0 (by omega) (by omega) (by omega) (h2 (by omega))
    · refine P.iconst (dq dtX1_numberIn 8 rfl) ?_
      refine P.iret (dq dtX1_numberIn 9 rfl) rfl rfl rfl ?_
      exact h1 (by omega)
def spB (f : Int → Int) (u w : Int) (k : Nat) : Bool := decide (w - u = lnS k) && eqF f (chS k) u (lnS k).toNat 0
theorem chS_R (k : Nat) (j : Int) : inR (chS k j) := inR_toInt _
theorem lp_spells {x : CX} {d N k : Nat} {σ : PH} {Q : PQ} {q a r : Nat} {n : Int} {f : Int → Int} (hq : σ q = pcO 1 [vR a, vI n]) (ha : σ a = pcI 0 r f) (hn : 0 ≤ n ∧ n ≤ r ∧ r < 1000) (hf : ∀ i, 0 ≤ i ∧ i < n → inR (f i)) (hd : 4 ≤ d) (hk : k < 4) {u w : Int} (hu : 0 ≤ u ∧ w ≤ n ∧ w - u = lnS k) : ∀ (t : Nat) (j : Int), 0 < t → 0 ≤ j → j + t = lnS k + 1 → (eqF f (chS k) u (t - 1) j = true → Q (some (vI 1)) σ) → (eqF f (chS k) u (t - 1) j = false → Q (some (vI 0)) σ) → P x d mX1_spells Q (0, 0) 15 [some (vR q), some (vR (1000 + k)), some (vI u), some (vI w), some (vI j)] [] N σ := by
  have hlb := lnS_b hk
  intro t
  induction t with
  | zero =>
    intro j h00
    exfalso; omega
  | succ t ih =>
    intro j h00 hj ht h1 h0
    refine P.iload (dq dtX1_spells 10 rfl) rfl ?_
    refine P.aload_n (dq dtX1_spells 11 rfl) rfl ?_
    refine P.callVs (As := []) (M' := mJ0_length_8abf5) (d' := d - 1) hk mlX1_62 mcJ0_length_8abf5 mvJ0_length_8abf5 rfl (dq dtX1_spells 12 rfl) rfl (by omega) (Nat.le_of_ble_eq_true rfl) ?_
    refine ct_length (by omega) hk ?_
    refine P.icmp_ge (t := 49) (dq dtX1_spells 13 rfl) rfl (by omega) (by omega) (fun c_21 => ?_) (fun c_21 => ?_)
    · obtain rfl : t = 0 := by omega
      refine P.iconst (dq dtX1_spells 27 rfl) ?_
      exact P.zret (dq dtX1_spells 28 rfl) rfl rfl (by decide) rfl (h1 rfl)
    · obtain ⟨t, rfl⟩ : ∃ z, t = z + 1 := ⟨t - 1, by omega⟩
      have hx : eqF f (chS k) u (t + 1 + 1 - 1) j = (decide (f (u + j) = chS k j) && eqF f (chS k) u t (j + 1)) := rfl
      rw [hx] at h1 h0
      have f1 := hf (u + j) (by omega)
      have f2 := chS_R k j
      refine P.aload_n (dq dtX1_spells 14 rfl) rfl ?_
      refine P.iload_n (dq dtX1_spells 15 rfl) rfl ?_
      refine P.iload (dq dtX1_spells 16 rfl) rfl ?_
      refine P.iadd (dq dtX1_spells 17 rfl) ?_
      refine P.callV1 (M' := mX1_at) (d' := d - 1) mlX1_33 mcX1_at mvX1_at (dq dtX1_spells 18 rfl) (by omega) (Nat.le_of_ble_eq_true rfl) hq rfl ?_
      refine ct_X1_at hq ha (by omega) (by omega) (fun n_29 => ?_) (fun n_29 => absurd (by omega) n_29)
      refine P.aload_n (dq dtX1_spells 19 rfl) rfl ?_
      refine P.iload (dq dtX1_spells 20 rfl) rfl ?_
      refine P.callVs (As := [vI j]) (M' := mJ0_charAt_5068e) (d' := d - 1) hk mlX1_68 mcJ0_charAt_5068e mvJ0_charAt_5068e rfl (dq dtX1_spells 21 rfl) rfl (by omega) (Nat.le_of_ble_eq_true rfl) ?_
      refine ct_charAt (by omega) hk (by omega) ?_
      refine P.icmp_eq (t := 43) (dq dtX1_spells 22 rfl) rfl f1 f2 (fun c_38 => ?_) (fun c_38 => ?_)
      · rw [decide_eq_true c_38, Bool.true_and] at h1 h0
        refine P.iinc (dq dtX1_spells 25 rfl) rfl (by decide) rfl rfl ?_
        refine P.goto (t := 15) (dq dtX1_spells 26 rfl) rfl ?_
        exact ih (j + 1) (by omega) (by omega) (by omega) h1 h0
      · refine P.iconst (dq dtX1_spells 23 rfl) ?_
        exact P.zret (dq dtX1_spells 24 rfl) rfl rfl (by decide) rfl (h0 (by rw [decide_eq_false c_38, Bool.false_and]))
theorem ct_X1_spells {x : CM} {d N k : Nat} {σ : PH} {Q : PQ} {q a r : Nat} {n : Int} {f : Int → Int} (hq : σ q = pcO 1 [vR a, vI n]) (ha : σ a = pcI 0 r f) (hn : 0 ≤ n ∧ n ≤ r ∧ r < 1000) (hf : ∀ i, 0 ≤ i ∧ i < n → inR (f i)) (hd : 4 ≤ d) (hk : k < 4) {u w : Int} (hu : 0 ≤ u ∧ u ≤ w ∧ w ≤ n) (h1 : spB f u w k = true → Q (some (vI 1)) σ) (h0 : spB f u w k = false → Q (some (vI 0)) σ) : Call x d 0 0 mX1_spells [vR q, vR (1000 + k), vI u, vI w] N σ Q := by
  refine Call.of mcX1_spells (Nat.le_of_ble_eq_true rfl) (fun y hy => ?_)
  subst hy
  have hlb := lnS_b hk
  unfold spB at h1 h0
  refine P.iload_n (dq dtX1_spells 0 rfl) rfl ?_
  refine P.iload_n (dq dtX1_spells 1 rfl) rfl ?_
  refine P.isub (dq dtX1_spells 2 rfl) ?_
  refine P.aload_n (dq dtX1_spells 3 rfl) rfl ?_
  refine P.callVs (As := []) (M' := mJ0_length_8abf5) (d' := d - 1) hk mlX1_62 mcJ0_length_8abf5 mvJ0_length_8abf5 rfl (dq dtX1_spells 4 rfl) rfl (by omega) (Nat.le_of_ble_eq_true rfl) ?_
  refine ct_length (by omega) hk ?_
  refine P.icmp_eq (t := 12) (dq dtX1_spells 5 rfl) rfl (by omega) (by omega) (fun c_7 => ?_) (fun c_7 => ?_)
  · rw [decide_eq_true c_7, Bool.true_and] at h1 h0
    refine P.iconst (dq dtX1_spells 8 rfl) ?_
    refine P.istore (dq dtX1_spells 9 rfl) (by decide) rfl rfl ?_
    exact lp_spells hq ha hn hf hd hk (by omega) ((lnS k).toNat + 1) 0 (by omega) (by omega) (by omega) h1 h0
  · refine P.iconst (dq dtX1_spells 6 rfl) ?_
    exact P.zret (dq dtX1_spells 7 rfl) rfl rfl (by decide) rfl (h0 (by rw [decide_eq_false c_7, Bool.false_and]))
/-- which word: up 0, down 1, axis 2, at 3 -/
def wdF (f : Int → Int) (u w : Int) : Int := if spB f u w 0 = true then 0 else if spB f u w 1 = true then 1 else if spB f u w 2 = true then 2 else if spB f u w 3 = true then 3 else -100000
/-- Letters.wordIn -/
theorem ct_X1_wordIn {x : CM} {d N : Nat} {σ : PH} {Q : PQ} {q a r : Nat} {n : Int} {f : Int → Int} (hq : σ q = pcO 1 [vR a, vI n]) (ha : σ a = pcI 0 r f) (hn : 0 ≤ n ∧ n ≤ r ∧ r < 1000) (hf : ∀ i, 0 ≤ i ∧ i < n → inR (f i)) (hd : 5 ≤ d) {u w : Int} (hu : 0 ≤ u ∧ u ≤ w ∧ w ≤ n) (h : Q (some (vI (wdF f u w))) σ) : Call x d 0 0 mX1_wordIn [vR q, vI u, vI w] N σ Q := by
  refine Call.of mcX1_wordIn (Nat.le_of_ble_eq_true rfl) (fun y hy => ?_)
  subst hy
  unfold wdF at h
  refine P.aload_n (dq dtX1_wordIn 0 rfl) rfl ?_
  refine P.ldcS (k := 0) (dq dtX1_wordIn 1 rfl) rfl (by decide) ?_
  refine P.iload_n (dq dtX1_wordIn 2 rfl) rfl ?_
  refine P.iload_n (dq dtX1_wordIn 3 rfl) rfl ?_
  refine P.callV3 (M' := mX1_spells) (d' := d - 1) mlX1_52 mcX1_spells mvX1_spells (dq dtX1_wordIn 4 rfl) (by omega) (Nat.le_of_ble_eq_true rfl) (by repeat (first | assumption | exact up_s | rw [up_n (by first | assumption | (apply Ne.symm; assumption) | decide | omega)])) rfl ?_
  refine ct_X1_spells (k := 0) (by repeat (first | assumption | exact up_s | rw [up_n (by first | assumption | (apply Ne.symm; assumption) | decide | omega)])) (by repeat (first | assumption | exact up_s | rw [up_n (by first | assumption | (apply Ne.symm; assumption) | decide | omega)])) (by omega) hf (by omega) (by decide) (by omega) (fun n_5 => ?_) (fun n_5 => ?_)
  · refine P.if_eq (t := 13) (dq dtX1_wordIn 5 rfl) rfl (by omega) (fun h9 => absurd h9 (by decide)) (fun _ => ?_)
    refine P.iconst (dq dtX1_wordIn 6 rfl) ?_
    refine P.iret (dq dtX1_wordIn 7 rfl) rfl rfl rfl ?_
    rw [if_pos n_5] at h
    exact h
  · refine P.if_eq (t := 13) (dq dtX1_wordIn 5 rfl) rfl (by omega) (fun _ => ?_) (fun h9 => absurd h9 (by decide))
    refine P.aload_n (dq dtX1_wordIn 8 rfl) rfl ?_
    refine P.ldcS (k := 1) (dq dtX1_wordIn 9 rfl) rfl (by decide) ?_
    refine P.iload_n (dq dtX1_wordIn 10 rfl) rfl ?_
    refine P.iload_n (dq dtX1_wordIn 11 rfl) rfl ?_
    refine P.callV3 (M' := mX1_spells) (d' := d - 1) mlX1_52 mcX1_spells mvX1_spells (dq dtX1_wordIn 12 rfl) (by omega) (Nat.le_of_ble_eq_true rfl) (by repeat (first | assumption | exact up_s | rw [up_n (by first | assumption | (apply Ne.symm; assumption) | decide | omega)])) rfl ?_
    refine ct_X1_spells (k := 1) (by repeat (first | assumption | exact up_s | rw [up_n (by first | assumption | (apply Ne.symm; assumption) | decide | omega)])) (by repeat (first | assumption | exact up_s | rw [up_n (by first | assumption | (apply Ne.symm; assumption) | decide | omega)])) (by omega) hf (by omega) (by decide) (by omega) (fun n_18 => ?_) (fun n_18 => ?_)
    · refine P.if_eq (t := 26) (dq dtX1_wordIn 13 rfl) rfl (by omega) (fun h9 => absurd h9 (by decide)) (fun _ => ?_)
      refine P.iconst (dq dtX1_wordIn 14 rfl) ?_
      refine P.iret (dq dtX1_wordIn 15 rfl) rfl rfl rfl ?_
      rw [n_5, if_neg (by decide), if_pos n_18] at h
      exact h
    · refine P.if_eq (t := 26) (dq dtX1_wordIn 13 rfl) rfl (by omega) (fun _ => ?_) (fun h9 => absurd h9 (by decide))
      refine P.aload_n (dq dtX1_wordIn 16 rfl) rfl ?_
      refine P.ldcS (k := 2) (dq dtX1_wordIn 17 rfl) rfl (by decide) ?_
      refine P.iload_n (dq dtX1_wordIn 18 rfl) rfl ?_
      refine P.iload_n (dq dtX1_wordIn 19 rfl) rfl ?_
      refine P.callV3 (M' := mX1_spells) (d' := d - 1) mlX1_52 mcX1_spells mvX1_spells (dq dtX1_wordIn 20 rfl) (by omega) (Nat.le_of_ble_eq_true rfl) (by repeat (first | assumption | exact up_s | rw [up_n (by first | assumption | (apply Ne.symm; assumption) | decide | omega)])) rfl ?_
      refine ct_X1_spells (k := 2) (by repeat (first | assumption | exact up_s | rw [up_n (by first | assumption | (apply Ne.symm; assumption) | decide | omega)])) (by repeat (first | assumption | exact up_s | rw [up_n (by first | assumption | (apply Ne.symm; assumption) | decide | omega)])) (by omega) hf (by omega) (by decide) (by omega) (fun n_31 => ?_) (fun n_31 => ?_)
      · refine P.if_eq (t := 39) (dq dtX1_wordIn 21 rfl) rfl (by omega) (fun h9 => absurd h9 (by decide)) (fun _ => ?_)
        refine P.iconst (dq dtX1_wordIn 22 rfl) ?_
        refine P.iret (dq dtX1_wordIn 23 rfl) rfl rfl rfl ?_
        rw [n_5, if_neg (by decide), n_18, if_neg (by decide), if_pos n_31] at h
        exact h
      · refine P.if_eq (t := 39) (dq dtX1_wordIn 21 rfl) rfl (by omega) (fun _ => ?_) (fun h9 => absurd h9 (by decide))
        refine P.aload_n (dq dtX1_wordIn 24 rfl) rfl ?_
        refine P.ldcS (k := 3) (dq dtX1_wordIn 25 rfl) rfl (by decide) ?_
        refine P.iload_n (dq dtX1_wordIn 26 rfl) rfl ?_
        refine P.iload_n (dq dtX1_wordIn 27 rfl) rfl ?_
        refine P.callV3 (M' := mX1_spells) (d' := d - 1) mlX1_52 mcX1_spells mvX1_spells (dq dtX1_wordIn 28 rfl) (by omega) (Nat.le_of_ble_eq_true rfl) (by repeat (first | assumption | exact up_s | rw [up_n (by first | assumption | (apply Ne.symm; assumption) | decide | omega)])) rfl ?_
        refine ct_X1_spells (k := 3) (by repeat (first | assumption | exact up_s | rw [up_n (by first | assumption | (apply Ne.symm; assumption) | decide | omega)])) (by repeat (first | assumption | exact up_s | rw [up_n (by first | assumption | (apply Ne.symm; assumption) | decide | omega)])) (by omega) hf (by omega) (by decide) (by omega) (fun n_44 => ?_) (fun n_44 => ?_)
        · refine P.if_eq (t := 54) (dq dtX1_wordIn 29 rfl) rfl (by omega) (fun h9 => absurd h9 (by decide)) (fun _ => ?_)
          refine P.iconst (dq dtX1_wordIn 30 rfl) ?_
          refine P.goto (t := 56) (dq dtX1_wordIn 31 rfl) rfl ?_
          refine P.iret (dq dtX1_wordIn 33 rfl) rfl rfl rfl ?_
          rw [n_5, if_neg (by decide), n_18, if_neg (by decide), n_31, if_neg (by decide), n_44] at h
          exact h
        · refine P.if_eq (t := 54) (dq dtX1_wordIn 29 rfl) rfl (by omega) (fun _ => ?_) (fun h9 => absurd h9 (by decide))
          refine P.ldc (n := -100000) (dq dtX1_wordIn 32 rfl) kcX1_61 rfl ?_
          refine P.iret (dq dtX1_wordIn 33 rfl) rfl rfl rfl ?_
          rw [n_5, if_neg (by decide), n_18, if_neg (by decide), n_31, if_neg (by decide), n_44] at h
          exact h
end
section
/-! an array's numbers beyond its length are of no account -/
theorem Wd.ext {x : CM} {N q t n : Nat} {σ : PH} {H : Heap} {f f' : Int → Int} (h : Wd x N σ H) (he : σ q = pcI t n f) (hff : ∀ i : Int, 0 ≤ i → i < n → f' i = f i) : Wd x N (up σ q (pcI t n f')) H := by
  have hq := h.lt_a he
  refine ⟨h.1, h.2.1, fun k p hp => ?_, fun k hk => by rw [up_n (by omega)]; exact h.2.2.2 k hk⟩
  have hk : k < N := by
    have := (List.getElem?_eq_some_iff.mp hp).1
    unfold wl at this
    simpa using this
  rw [wl_at hk] at hp
  cases hp
  have h0 := h.2.2.1 k _ (wl_at hk)
  by_cases hkq : k = q
  · subst hkq
    rw [he] at h0
    rw [up_s]
    have e1 : H[CM.base x + k]? = some (arrV (CM.cy x t) n (fun j => .int (iI (f (j : Int))))) := h0
    show H[CM.base x + k]? = some (arrV (CM.cy x t) n (fun j => .int (iI (f' (j : Int)))))
    rw [e1]
    apply congrArg some
    unfold arrV
    congr 1
    apply Array.ext
    · simp
    · intro i h1 h2
      simp at h1
      simp only [Array.getElem_ofFn]
      rw [hff (i : Int) (by omega) (by omega)]
  · rw [up_n hkq]
    exact h0
theorem P.ext {x : CX} {d : Nat} {M : MI} {Q : PQ} {b : Nat × Nat} {pc : Nat} {L : List (Option Value)} {st : List Value} {N : Nat} {σ : PH} {q t n : Nat} {f f' : Int → Int} (he : σ q = pcI t n f) (hff : ∀ i : Int, 0 ≤ i → i < n → f' i = f i) (k : P x d M Q b pc L st N (up σ q (pcI t n f'))) : P x d M Q b pc L st N σ :=
  fun ok H locs cells slots ls hW hS hL h1 h2 => k ok H locs cells slots ls (hW.ext he hff) hS hL h1 h2
theorem bz_nar {z : Int} (h : z = 0 ∨ z = 1) : narrow .boolean (vI z) = vI z := by rcases h with rfl | rfl <;> decide +kernel
theorem bz_fit {ρ : Nat → Nat} {z : Int} (h : z = 0 ∨ z = 1) : fits .boolean (cvv ρ (vI z)) = true := by
  show fits .boolean (vI z) = true
  rcases h with rfl | rfl <;> decide +kernel
/-- the sum of n numbers from a on -/
def sumF (f : Int → Int) (a : Int) : Nat → Int
  | 0 => 0
  | n + 1 => sumF f a n + f (a + n)
theorem sumF_b {f : Int → Int} {a c : Int} (hc : 0 ≤ c) : ∀ n : Nat, (∀ k : Int, 0 ≤ k ∧ k < n → -c ≤ f (a + k) ∧ f (a + k) ≤ c) → -(c * n) ≤ sumF f a n ∧ sumF f a n ≤ c * n := by
  intro n
  induction n with
  | zero => intro _; simp [sumF]
  | succ n ih =>
    intro h
    have h1 := ih (fun k hk => h k (by omega))
    have h2 := h n (by omega)
    show -(c * ((n + 1 : Nat) : Int)) ≤ sumF f a n + f (a + n) ∧ sumF f a n + f (a + n) ≤ c * ((n + 1 : Nat) : Int)
    have e : c * ((n + 1 : Nat) : Int) = c * n + c := by rw [Int.natCast_add, Int.mul_add]; simp
    rw [e]
    omega
theorem sumF_c {f g : Int → Int} {a b : Int} : ∀ n : Nat, (∀ k : Int, 0 ≤ k ∧ k < n → f (a + k) = g (b + k)) → sumF f a n = sumF g b n := by
  intro n
  induction n with
  | zero => intro _; rfl
  | succ n ih =>
    intro h
    show sumF f a n + f (a + n) = sumF g b n + g (b + n)
    rw [ih (fun k hk => h k (by omega)), h n (by omega)]
def addC (cn : Int → Int) (t : Int) : Int → Int := upI cn t (if 6 ≤ cn t then 6 else cn t + 1)
def addE (cn er : Int → Int) (t v : Int) : Int → Int := if 6 ≤ cn t then upI (cpI er er (t * 6 + 1) (t * 6) 5) (t * 6 + 5) v else upI er (t * 6 + cn t) v
/-- sixty times the mean -/
def m60 (cn er : Int → Int) (t : Int) : Int := if cn t = 0 then 0 else (sumF er (t * 6) (cn t).toNat * 60).tdiv (cn t)
abbrev MsV : Type := Int × Int × (Int → Int) × (Int → Int)
def Ms (σ : PH) (q : Nat) (v : MsV) : Prop := σ q = pcO 2 [vI v.1, vI v.2.1, vR (q + 1), vR (q + 2)] ∧ σ (q + 1) = pcI 0 16 v.2.2.1 ∧ σ (q + 2) = pcI 0 96 v.2.2.2
theorem Ms.fr {σ σ' : PH} {q : Nat} {v : MsV} {S : List Nat} (h : Ms σ q v) (hF : Fr σ σ' S) (h0 : q ∉ S) (h1 : q + 1 ∉ S) (h2 : q + 2 ∉ S) : Ms σ' q v := ⟨(hF _ h0).trans h.1, (hF _ h1).trans h.2.1, (hF _ h2).trans h.2.2⟩
/-- a moment: what is measured; place, screw, turns, travel, up -/
abbrev MoV : Type := MsV × Int × Int × Int × Int × Int
def Mo (σ : PH) (q : Nat) (v : MoV) : Prop := σ q = pcO 3 [vR (q + 1), vI v.2.1, vI v.2.2.1, vI v.2.2.2.1, vI v.2.2.2.2.1, vI v.2.2.2.2.2] ∧ Ms σ (q + 1) v.1
theorem Mo.fr {σ σ' : PH} {q : Nat} {v : MoV} {S : List Nat} (h : Mo σ q v) (hF : Fr σ σ' S) (h0 : q ∉ S) (h1 : q + 1 ∉ S) (h2 : q + 2 ∉ S) (h3 : q + 3 ∉ S) : Mo σ' q v := ⟨(hF _ h0).trans h.1, h.2.fr hF h1 h2 h3⟩
end
section
/-- Measured.add -/
theorem ct_X2_add {x : CM} {d N : Nat} {σ : PH} {Q : PQ} {q : Nat} {v : MsV} (hM : Ms σ q v) (hp : 0 ≤ v.1 ∧ v.1 ≤ 8) (hd : 2 ≤ d) {k w : Int} (hk : 0 ≤ k ∧ k < v.1) (hw : 0 ≤ w ∧ w < 2) (hcn : 0 ≤ v.2.2.1 (k * 2 + w) ∧ v.2.2.1 (k * 2 + w) ≤ 6) {z : Int} (h : ∀ σ' : PH, Ms σ' q (v.1, v.2.1, addC v.2.2.1 (k * 2 + w), addE v.2.2.1 v.2.2.2 (k * 2 + w) z) → Fr σ σ' [q, q + 1, q + 2] → Q (some (vI (addC v.2.2.1 (k * 2 + w) (k * 2 + w)))) σ') : Call x d 0 0 mX2_add [vR q, vI k, vI w, vI z] N σ Q := by
  refine Call.of mcX2_add (Nat.le_of_ble_eq_true rfl) (fun y hy => ?_)
  subst hy
  obtain ⟨p, s, cn, er⟩ := v
  obtain ⟨hq, hc, he⟩ := hM
  dsimp only at hcn hq hc he hp hk h
  have g1 : q + 1 ≠ q + 2 := by omega
  refine P.aload_n (dq dtX2_add 0 rfl) rfl ?_
  refine P.iload_n (dq dtX2_add 1 rfl) rfl ?_
  refine P.iload_n (dq dtX2_add 2 rfl) rfl ?_
  refine P.callV2 (M' := mX2_slotOf) (d' := d - 1) mlX2_34 mcX2_slotOf mvX2_slotOf (dq dtX2_add 3 rfl) (by omega) (Nat.le_of_ble_eq_true rfl) (by repeat (first | assumption | exact up_s | rw [up_n (by first | assumption | (apply Ne.symm; assumption) | decide | omega)])) rfl ?_
  refine ct_X2_slotOf (by repeat (first | assumption | exact up_s | rw [up_n (by first | assumption | (apply Ne.symm; assumption) | decide | omega)])) (by omega) (by omega) (by omega) (fun n_3 => ?_) (fun n_3 => absurd (by omega) n_3)
  refine P.istore (dq dtX2_add 4 rfl) (by decide) rfl rfl ?_
  refine P.iload (dq dtX2_add 5 rfl) rfl ?_
  refine P.if_ge (t := 15) (dq dtX2_add 6 rfl) rfl (by omega) (fun c_10 => ?_) (fun c_10 => ?_)
  · have ht : 0 ≤ k * 2 + w ∧ k * 2 + w < 16 := by omega
    generalize k * 2 + w = t at *
    refine P.iload (dq dtX2_add 9 rfl) rfl ?_
    refine P.bipush (dq dtX2_add 10 rfl) rfl ?_
    refine P.imul (dq dtX2_add 11 rfl) ?_
    refine P.istore (dq dtX2_add 12 rfl) (by decide) rfl rfl ?_
    refine P.aload_n (dq dtX2_add 13 rfl) rfl ?_
    refine P.get flX2_18 (dq dtX2_add 14 rfl) (by repeat (first | assumption | exact up_s | rw [up_n (by first | assumption | (apply Ne.symm; assumption) | decide | omega)])) (by rfl) ?_
    refine P.iload (dq dtX2_add 15 rfl) rfl ?_
    refine P.iald (dq dtX2_add 16 rfl) (by repeat (first | assumption | exact up_s | rw [up_n (by first | assumption | (apply Ne.symm; assumption) | decide | omega)])) (by omega) (by omega) (by omega) ?_
    refine P.bipush (dq dtX2_add 17 rfl) rfl ?_
    refine P.icmp_lt (t := 60) (dq dtX2_add 18 rfl) rfl (by omega) (by omega) (fun c_31 => ?_) (fun c_31 => ?_)
    · refine P.aload_n (dq dtX2_add 34 rfl) rfl ?_
      refine P.get flX2_22 (dq dtX2_add 35 rfl) (by repeat (first | assumption | exact up_s | rw [up_n (by first | assumption | (apply Ne.symm; assumption) | decide | omega)])) (by rfl) ?_
      refine P.iload (dq dtX2_add 36 rfl) rfl ?_
      refine P.aload_n (dq dtX2_add 37 rfl) rfl ?_
      refine P.get flX2_18 (dq dtX2_add 38 rfl) (by repeat (first | assumption | exact up_s | rw [up_n (by first | assumption | (apply Ne.symm; assumption) | decide | omega)])) (by rfl) ?_
      refine P.iload (dq dtX2_add 39 rfl) rfl ?_
      refine P.iald (dq dtX2_add 40 rfl) (by repeat (first | assumption | exact up_s | rw [up_n (by first | assumption | (apply Ne.symm; assumption) | decide | omega)])) (by omega) (by omega) (by omega) ?_
      try rw [show upI cn t 5 t = 5 from upI_s]
      refine P.iadd (dq dtX2_add 41 rfl) ?_
      refine P.iload_n (dq dtX2_add 42 rfl) rfl ?_
      refine P.iast (dq dtX2_add 43 rfl) (by repeat (first | assumption | exact up_s | rw [up_n (by first | assumption | (apply Ne.symm; assumption) | decide | omega)])) (by omega) (by omega) (by omega) ?_
      refine P.aload_n (dq dtX2_add 44 rfl) rfl ?_
      refine P.get flX2_18 (dq dtX2_add 45 rfl) (by repeat (first | assumption | exact up_s | rw [up_n (by first | assumption | (apply Ne.symm; assumption) | decide | omega)])) (by rfl) ?_
      refine P.iload (dq dtX2_add 46 rfl) rfl ?_
      refine P.dup2 (dq dtX2_add 47 rfl) rfl rfl ?_
      refine P.iald (dq dtX2_add 48 rfl) (by repeat (first | assumption | exact up_s | rw [up_n (by first | assumption | (apply Ne.symm; assumption) | decide | omega)])) (by omega) (by omega) (by omega) ?_
      try rw [show upI cn t 5 t = 5 from upI_s]
      refine P.iconst (dq dtX2_add 49 rfl) ?_
      refine P.iadd (dq dtX2_add 50 rfl) ?_
      refine P.iast (dq dtX2_add 51 rfl) (by repeat (first | assumption | exact up_s | rw [up_n (by first | assumption | (apply Ne.symm; assumption) | decide | omega)])) (by omega) (by omega) (by omega) ?_
      refine P.aload_n (dq dtX2_add 52 rfl) rfl ?_
      refine P.get flX2_18 (dq dtX2_add 53 rfl) (by repeat (first | assumption | exact up_s | rw [up_n (by first | assumption | (apply Ne.symm; assumption) | decide | omega)])) (by rfl) ?_
      refine P.iload (dq dtX2_add 54 rfl) rfl ?_
      refine P.iald (dq dtX2_add 55 rfl) (by repeat (first | assumption | exact up_s | rw [up_n (by first | assumption | (apply Ne.symm; assumption) | decide | omega)])) (by omega) (by omega) (by omega) ?_
      refine P.iret (dq dtX2_add 56 rfl) rfl rfl rfl ?_
      first | (have eC : addC cn t = upI cn t (cn t + 1) := by { unfold addC; rw [if_neg (by omega)] }; have eE : addE cn er t z = upI er (t * 6 + cn t) z := by { unfold addE; rw [if_neg (by omega)] }; rw [eC, eE] at h; exact h _ ⟨(by repeat (first | assumption | exact up_s | rw [up_n (by first | assumption | (apply Ne.symm; assumption) | decide | omega)])), (by repeat (first | assumption | exact up_s | rw [up_n (by first | assumption | (apply Ne.symm; assumption) | decide | omega)])), (by repeat (first | assumption | exact up_s | rw [up_n (by first | assumption | (apply Ne.symm; assumption) | decide | omega)]))⟩ (by repeat (first | assumption | exact Fr.rf | refine Fr.up ?_ (by simp)))) | (have eC : addC cn t = upI (upI cn t 5) t (5 + 1) := by { unfold addC; rw [if_pos (by omega)]; funext i; simp only [upI]; split <;> rfl }; have eE : addE cn er t z = upI (cpI er er (t * 6 + 1) (t * 6) 5) (t * 6 + 5) z := by { unfold addE; rw [if_pos (by omega)] }; rw [eC, eE] at h; exact h _ ⟨(by repeat (first | assumption | exact up_s | rw [up_n (by first | assumption | (apply Ne.symm; assumption) | decide | omega)])), (by repeat (first | assumption | exact up_s | rw [up_n (by first | assumption | (apply Ne.symm; assumption) | decide | omega)])), (by repeat (first | assumption | exact up_s | rw [up_n (by first | assumption | (apply Ne.symm; assumption) | decide | omega)]))⟩ (by repeat (first | assumption | exact Fr.rf | refine Fr.up ?_ (by simp))))
    · refine P.aload_n (dq dtX2_add 19 rfl) rfl ?_
      refine P.get flX2_22 (dq dtX2_add 20 rfl) (by repeat (first | assumption | exact up_s | rw [up_n (by first | assumption | (apply Ne.symm; assumption) | decide | omega)])) (by rfl) ?_
      refine P.iload (dq dtX2_add 21 rfl) rfl ?_
      refine P.iconst (dq dtX2_add 22 rfl) ?_
      refine P.iadd (dq dtX2_add 23 rfl) ?_
      refine P.aload_n (dq dtX2_add 24 rfl) rfl ?_
      refine P.get flX2_22 (dq dtX2_add 25 rfl) (by repeat (first | assumption | exact up_s | rw [up_n (by first | assumption | (apply Ne.symm; assumption) | decide | omega)])) (by rfl) ?_
      refine P.iload (dq dtX2_add 26 rfl) rfl ?_
      refine P.iconst (dq dtX2_add 27 rfl) ?_
      refine P.copyI (dq dtX2_add 28 rfl) mlX2_38 (by repeat (first | assumption | exact up_s | rw [up_n (by first | assumption | (apply Ne.symm; assumption) | decide | omega)])) (by repeat (first | assumption | exact up_s | rw [up_n (by first | assumption | (apply Ne.symm; assumption) | decide | omega)])) (by omega) (by omega) (by omega) (by omega) (by omega) (by omega) (by omega) (by omega) (Nat.le_of_ble_eq_true rfl) ?_
      refine P.aload_n (dq dtX2_add 29 rfl) rfl ?_
      refine P.get flX2_18 (dq dtX2_add 30 rfl) (by repeat (first | assumption | exact up_s | rw [up_n (by first | assumption | (apply Ne.symm; assumption) | decide | omega)])) (by rfl) ?_
      refine P.iload (dq dtX2_add 31 rfl) rfl ?_
      refine P.iconst (dq dtX2_add 32 rfl) ?_
      refine P.iast (dq dtX2_add 33 rfl) (by repeat (first | assumption | exact up_s | rw [up_n (by first | assumption | (apply Ne.symm; assumption) | decide | omega)])) (by omega) (by omega) (by omega) ?_
      refine P.aload_n (dq dtX2_add 34 rfl) rfl ?_
      refine P.get flX2_22 (dq dtX2_add 35 rfl) (by repeat (first | assumption | exact up_s | rw [up_n (by first | assumption | (apply Ne.symm; assumption) | decide | omega)])) (by rfl) ?_
      refine P.iload (dq dtX2_add 36 rfl) rfl ?_
      refine P.aload_n (dq dtX2_add 37 rfl) rfl ?_
      refine P.get flX2_18 (dq dtX2_add 38 rfl) (by repeat (first | assumption | exact up_s | rw [up_n (by first | assumption | (apply Ne.symm; assumption) | decide | omega)])) (by rfl) ?_
      refine P.iload (dq dtX2_add 39 rfl) rfl ?_
      refine P.iald (dq dtX2_add 40 rfl) (by repeat (first | assumption | exact up_s | rw [up_n (by first | assumption | (apply Ne.symm; assumption) | decide | omega)])) (by omega) (by omega) (by omega) ?_
      try rw [show upI cn t 5 t = 5 from upI_s]
      refine P.iadd (dq dtX2_add 41 rfl) ?_
      refine P.iload_n (dq dtX2_add 42 rfl) rfl ?_
      refine P.iast (dq dtX2_add 43 rfl) (by repeat (first | assumption | exact up_s | rw [up_n (by first | assumption | (apply Ne.symm; assumption) | decide | omega)])) (by omega) (by omega) (by omega) ?_
      refine P.aload_n (dq dtX2_add 44 rfl) rfl ?_
      refine P.get flX2_18 (dq dtX2_add 45 rfl) (by repeat (first | assumption | exact up_s | rw [up_n (by first | assumption | (apply Ne.symm; assumption) | decide | omega)])) (by rfl) ?_
      refine P.iload (dq dtX2_add 46 rfl) rfl ?_
      refine P.dup2 (dq dtX2_add 47 rfl) rfl rfl ?_
      refine P.iald (dq dtX2_add 48 rfl) (by repeat (first | assumption | exact up_s | rw [up_n (by first | assumption | (apply Ne.symm; assumption) | decide | omega)])) (by omega) (by omega) (by omega) ?_
      try rw [show upI cn t 5 t = 5 from upI_s]
      refine P.iconst (dq dtX2_add 49 rfl) ?_
      refine P.iadd (dq dtX2_add 50 rfl) ?_
      refine P.iast (dq dtX2_add 51 rfl) (by repeat (first | assumption | exact up_s | rw [up_n (by first | assumption | (apply Ne.symm; assumption) | decide | omega)])) (by omega) (by omega) (by omega) ?_
      refine P.aload_n (dq dtX2_add 52 rfl) rfl ?_
      refine P.get flX2_18 (dq dtX2_add 53 rfl) (by repeat (first | assumption | exact up_s | rw [up_n (by first | assumption | (apply Ne.symm; assumption) | decide | omega)])) (by rfl) ?_
      refine P.iload (dq dtX2_add 54 rfl) rfl ?_
      refine P.iald (dq dtX2_add 55 rfl) (by repeat (first | assumption | exact up_s | rw [up_n (by first | assumption | (apply Ne.symm; assumption) | decide | omega)])) (by omega) (by omega) (by omega) ?_
      refine P.iret (dq dtX2_add 56 rfl) rfl rfl rfl ?_
      first | (have eC : addC cn t = upI cn t (cn t + 1) := by { unfold addC; rw [if_neg (by omega)] }; have eE : addE cn er t z = upI er (t * 6 + cn t) z := by { unfold addE; rw [if_neg (by omega)] }; rw [eC, eE] at h; exact h _ ⟨(by repeat (first | assumption | exact up_s | rw [up_n (by first | assumption | (apply Ne.symm; assumption) | decide | omega)])), (by repeat (first | assumption | exact up_s | rw [up_n (by first | assumption | (apply Ne.symm; assumption) | decide | omega)])), (by repeat (first | assumption | exact up_s | rw [up_n (by first | assumption | (apply Ne.symm; assumption) | decide | omega)]))⟩ (by repeat (first | assumption | exact Fr.rf | refine Fr.up ?_ (by simp)))) | (have eC : addC cn t = upI (upI cn t 5) t (5 + 1) := by { unfold addC; rw [if_pos (by omega)]; funext i; simp only [upI]; split <;> rfl }; have eE : addE cn er t z = upI (cpI er er (t * 6 + 1) (t * 6) 5) (t * 6 + 5) z := by { unfold addE; rw [if_pos (by omega)] }; rw [eC, eE] at h; exact h _ ⟨(by repeat (first | assumption | exact up_s | rw [up_n (by first | assumption | (apply Ne.symm; assumption) | decide | omega)])), (by repeat (first | assumption | exact up_s | rw [up_n (by first | assumption | (apply Ne.symm; assumption) | decide | omega)])), (by repeat (first | assumption | exact up_s | rw [up_n (by first | assumption | (apply Ne.symm; assumption) | decide | omega)]))⟩ (by repeat (first | assumption | exact Fr.rf | refine Fr.up ?_ (by simp))))
  · refine P.iconst (dq dtX2_add 7 rfl) ?_
    refine P.iret (dq dtX2_add 8 rfl) rfl rfl rfl ?_
    exfalso; omega
/-- Measured.forget -/
theorem ct_X2_forget {x : CM} {d N : Nat} {σ : PH} {Q : PQ} {q : Nat} {v : MsV} (hM : Ms σ q v) (hp : 0 ≤ v.1 ∧ v.1 ≤ 8) (hd : 2 ≤ d) {k w : Int} (hk : 0 ≤ k ∧ k < v.1) (hw : 0 ≤ w ∧ w < 2) (h : ∀ σ' : PH, Ms σ' q (v.1, v.2.1, upI v.2.2.1 (k * 2 + w) 0, v.2.2.2) → Fr σ σ' [q, q + 1, q + 2] → Q (some (vI (v.2.2.1 (k * 2 + w)))) σ') : Call x d 0 0 mX2_forget [vR q, vI k, vI w] N σ Q := by
  refine Call.of mcX2_forget (Nat.le_of_ble_eq_true rfl) (fun y hy => ?_)
  subst hy
  obtain ⟨p, s, cn, er⟩ := v
  obtain ⟨hq, hc, he⟩ := hM
  dsimp only at hq hc he hp hk h
  have g1 : q + 1 ≠ q + 2 := by omega
  refine P.aload_n (dq dtX2_forget 0 rfl) rfl ?_
  refine P.iload_n (dq dtX2_forget 1 rfl) rfl ?_
  refine P.iload_n (dq dtX2_forget 2 rfl) rfl ?_
  refine P.callV2 (M' := mX2_slotOf) (d' := d - 1) mlX2_34 mcX2_slotOf mvX2_slotOf (dq dtX2_forget 3 rfl) (by omega) (Nat.le_of_ble_eq_true rfl) (by repeat (first | assumption | exact up_s | rw [up_n (by first | assumption | (apply Ne.symm; assumption) | decide | omega)])) rfl ?_
  refine ct_X2_slotOf (by repeat (first | assumption | exact up_s | rw [up_n (by first | assumption | (apply Ne.symm; assumption) | decide | omega)])) (by omega) (by omega) (by omega) (fun n_3 => ?_) (fun n_3 => absurd (by omega) n_3)
  refine P.istore_n (dq dtX2_forget 4 rfl) (by decide) rfl rfl ?_
  refine P.iload_n (dq dtX2_forget 5 rfl) rfl ?_
  refine P.if_ge (t := 13) (dq dtX2_forget 6 rfl) rfl (by omega) (fun c_8 => ?_) (fun c_8 => ?_)
  · refine P.aload_n (dq dtX2_forget 9 rfl) rfl ?_
    refine P.get flX2_18 (dq dtX2_forget 10 rfl) (by repeat (first | assumption | exact up_s | rw [up_n (by first | assumption | (apply Ne.symm; assumption) | decide | omega)])) (by rfl) ?_
    refine P.iload_n (dq dtX2_forget 11 rfl) rfl ?_
    refine P.iald (dq dtX2_forget 12 rfl) (by repeat (first | assumption | exact up_s | rw [up_n (by first | assumption | (apply Ne.symm; assumption) | decide | omega)])) (by omega) (by omega) (by omega) ?_
    refine P.istore (dq dtX2_forget 13 rfl) (by decide) rfl rfl ?_
    refine P.aload_n (dq dtX2_forget 14 rfl) rfl ?_
    refine P.get flX2_18 (dq dtX2_forget 15 rfl) (by repeat (first | assumption | exact up_s | rw [up_n (by first | assumption | (apply Ne.symm; assumption) | decide | omega)])) (by rfl) ?_
    refine P.iload_n (dq dtX2_forget 16 rfl) rfl ?_
    refine P.iconst (dq dtX2_forget 17 rfl) ?_
    refine P.iast (dq dtX2_forget 18 rfl) (by repeat (first | assumption | exact up_s | rw [up_n (by first | assumption | (apply Ne.symm; assumption) | decide | omega)])) (by omega) (by omega) (by omega) ?_
    refine P.iload (dq dtX2_forget 19 rfl) rfl ?_
    refine P.iret (dq dtX2_forget 20 rfl) rfl rfl rfl ?_
    exact h _ ⟨(by repeat (first | assumption | exact up_s | rw [up_n (by first | assumption | (apply Ne.symm; assumption) | decide | omega)])), (by repeat (first | assumption | exact up_s | rw [up_n (by first | assumption | (apply Ne.symm; assumption) | decide | omega)])), (by repeat (first | assumption | exact up_s | rw [up_n (by first | assumption | (apply Ne.symm; assumption) | decide | omega)]))⟩ (by repeat (first | assumption | exact Fr.rf | refine Fr.up ?_ (by simp)))
  · refine P.iconst (dq dtX2_forget 7 rfl) ?_
    refine P.iret (dq dtX2_forget 8 rfl) rfl rfl rfl ?_
    exfalso; omega
end
section
theorem ct_max_r {x : CM} {d N : Nat} {σ : PH} {Q : PQ} {a c : Int} (ha : inR a) (hc : inR c) (hac : a ≤ c) (h : Q (some (vI c)) σ) : Call x d 0 0 mJ9_max_7cf53 [vI a, vI c] N σ Q := ct_max ha hc (fun h9 => by rw [show a = c by omega]; exact h) (fun _ => h)
theorem ct_max_l {x : CM} {d N : Nat} {σ : PH} {Q : PQ} {a c : Int} (ha : inR a) (hc : inR c) (hac : c ≤ a) (h : Q (some (vI a)) σ) : Call x d 0 0 mJ9_max_7cf53 [vI a, vI c] N σ Q := ct_max ha hc (fun _ => h) (fun h9 => absurd h9 (by omega))
theorem ct_min_l {x : CM} {d N : Nat} {σ : PH} {Q : PQ} {a c : Int} (ha : inR a) (hc : inR c) (hac : a ≤ c) (h : Q (some (vI a)) σ) : Call x d 0 0 mJ9_min_7cf53 [vI a, vI c] N σ Q := ct_min ha hc (fun _ => h) (fun h9 => absurd h9 (by omega))
theorem ct_min_r {x : CM} {d N : Nat} {σ : PH} {Q : PQ} {a c : Int} (ha : inR a) (hc : inR c) (hac : c ≤ a) (h : Q (some (vI c)) σ) : Call x d 0 0 mJ9_min_7cf53 [vI a, vI c] N σ Q := ct_min ha hc (fun h9 => by rw [show a = c by omega]; exact h) (fun _ => h)
theorem lp_begin {x : CX} {d N : Nat} {σ : PH} {Q : PQ} {q : Nat} {p s : Int} {er g0 : Int → Int} (hq : σ q = pcO 2 [vI p, vI s, vR (q + 1), vR (q + 2)]) {i j : Int} (h : ∀ σ' : PH, Fr σ σ' [q + 1] → σ' (q + 1) = pcI 0 16 (fun _ => 0) → Q none σ') : ∀ (t : Nat) (k : Int) (g : Int → Int) (σ' : PH), 0 ≤ k ∧ k ≤ 16 → 16 - k < t → σ' (q + 1) = pcI 0 16 g → (∀ u, 0 ≤ u → u < k → g u = 0) → Fr σ σ' [q + 1] → P x d mX2_begin Q (0, 0) 31 [some (vR q), some (vI i), some (vI j), some (vI k)] [] N σ' := by
  intro t
  induction t with
  | zero =>
    intro k g σ' hk hm h1 hg hF
    exfalso; omega
  | succ t ih =>
    intro k g σ' hk hm h1 hg hF
    have hq' : σ' q = pcO 2 [vI p, vI s, vR (q + 1), vR (q + 2)] := (hF q (by simp)).trans hq
    refine P.iload_n (dq dtX2_begin 16 rfl) rfl ?_
    refine P.aload_n (dq dtX2_begin 17 rfl) rfl ?_
    refine P.get flX2_18 (dq dtX2_begin 18 rfl) (by repeat (first | assumption | exact up_s | rw [up_n (by first | assumption | (apply Ne.symm; assumption) | decide | omega)])) (by rfl) ?_
    refine P.alen (dq dtX2_begin 19 rfl) (by repeat (first | assumption | exact up_s | rw [up_n (by first | assumption | (apply Ne.symm; assumption) | decide | omega)])) (by decide) ?_
    refine P.icmp_ge (t := 53) (dq dtX2_begin 20 rfl) rfl (by omega) (by omega) (fun c_37 => ?_) (fun c_37 => ?_)
    · refine P.ext (f' := fun _ => 0) h1 (fun u h5 h6 => (hg u h5 (by omega)).symm) ?_
      refine P.vret (dq dtX2_begin 28 rfl) rfl rfl rfl ?_
      exact h _ (hF.up (by simp)) up_s
    · refine P.aload_n (dq dtX2_begin 21 rfl) rfl ?_
      refine P.get flX2_18 (dq dtX2_begin 22 rfl) (by repeat (first | assumption | exact up_s | rw [up_n (by first | assumption | (apply Ne.symm; assumption) | decide | omega)])) (by rfl) ?_
      refine P.iload_n (dq dtX2_begin 23 rfl) rfl ?_
      refine P.iconst (dq dtX2_begin 24 rfl) ?_
      refine P.iast (dq dtX2_begin 25 rfl) (by repeat (first | assumption | exact up_s | rw [up_n (by first | assumption | (apply Ne.symm; assumption) | decide | omega)])) (by omega) (by omega) (by omega) ?_
      refine P.iinc (dq dtX2_begin 26 rfl) rfl (by decide) rfl rfl ?_
      refine P.goto (t := 31) (dq dtX2_begin 27 rfl) rfl ?_
      exact ih (k + 1) (upI g k 0) _ (by omega) (by omega) up_s (fun u h5 h6 => by { by_cases e : u = k; rw [e, upI_s]; rw [upI_n e]; exact hg u h5 (by omega) }) (hF.up (by simp))
/-- Measured.begin -/
theorem ct_X2_begin {x : CM} {d N : Nat} {σ : PH} {Q : PQ} {q : Nat} {v : MsV} (hM : Ms σ q v) (hd : 1 ≤ d) {i j : Int} (hi : 2 ≤ i ∧ i ≤ 8) (hj : 10 ≤ j ∧ j ≤ 99) (h : ∀ σ' : PH, Ms σ' q (i, j, (fun _ => 0), v.2.2.2) → Fr σ σ' [q, q + 1, q + 2] → Q none σ') : Call x d 0 0 mX2_begin [vR q, vI i, vI j] N σ Q := by
  refine Call.of mcX2_begin (Nat.le_of_ble_eq_true rfl) (fun y hy => ?_)
  subst hy
  obtain ⟨p, s, cn, er⟩ := v
  obtain ⟨hq, hc, he⟩ := hM
  dsimp only at hq hc he h
  have g1 : q + 1 ≠ q := by omega
  have g2 : q + 2 ≠ q := by omega
  refine P.aload_n (dq dtX2_begin 0 rfl) rfl ?_
  refine P.iconst (dq dtX2_begin 1 rfl) ?_
  refine P.iload_n (dq dtX2_begin 2 rfl) rfl ?_
  refine P.bipush (dq dtX2_begin 3 rfl) rfl ?_
  refine P.callS2 (M' := mJ9_min_7cf53) (d' := d - 1) mlX2_25 mcJ9_min_7cf53 msJ9_min_7cf53 (dq dtX2_begin 4 rfl) (by omega) (Nat.le_of_ble_eq_true rfl) ?_
  refine ct_min_l (by omega) (by omega) (by omega) ?_
  refine P.callS2 (M' := mJ9_max_7cf53) (d' := d - 1) mlX2_31 mcJ9_max_7cf53 msJ9_max_7cf53 (dq dtX2_begin 5 rfl) (by omega) (Nat.le_of_ble_eq_true rfl) ?_
  refine ct_max_r (by omega) (by omega) (by omega) ?_
  refine P.put flX2_9 rfl (dq dtX2_begin 6 rfl) (by repeat (first | assumption | exact up_s | rw [up_n (by first | assumption | (apply Ne.symm; assumption) | decide | omega)])) (by exact Nat.le_of_ble_eq_true rfl) rfl rfl rfl rfl rfl ?_
  refine P.aload_n (dq dtX2_begin 7 rfl) rfl ?_
  refine P.bipush (dq dtX2_begin 8 rfl) rfl ?_
  refine P.iload_n (dq dtX2_begin 9 rfl) rfl ?_
  refine P.bipush (dq dtX2_begin 10 rfl) rfl ?_
  refine P.callS2 (M' := mJ9_min_7cf53) (d' := d - 1) mlX2_25 mcJ9_min_7cf53 msJ9_min_7cf53 (dq dtX2_begin 11 rfl) (by omega) (Nat.le_of_ble_eq_true rfl) ?_
  refine ct_min_l (by omega) (by omega) (by omega) ?_
  refine P.callS2 (M' := mJ9_max_7cf53) (d' := d - 1) mlX2_31 mcJ9_max_7cf53 msJ9_max_7cf53 (dq dtX2_begin 12 rfl) (by omega) (Nat.le_of_ble_eq_true rfl) ?_
  refine ct_max_r (by omega) (by omega) (by omega) ?_
  refine P.put flX2_15 rfl (dq dtX2_begin 13 rfl) (by repeat (first | assumption | exact up_s | rw [up_n (by first | assumption | (apply Ne.symm; assumption) | decide | omega)])) (by exact Nat.le_of_ble_eq_true rfl) rfl rfl rfl rfl rfl ?_
  refine P.iconst (dq dtX2_begin 14 rfl) ?_
  refine P.istore_n (dq dtX2_begin 15 rfl) (by decide) rfl rfl ?_
  rw [up_up]
  refine lp_begin (σ := up σ q (pcO 2 _)) (g0 := cn) (er := er) up_s (fun σ' hF h1 => h σ' ⟨(hF q (by simp)).trans up_s, h1, ?_⟩ ?_) 17 0 cn _ (by omega) (by omega) (by repeat (first | assumption | exact up_s | rw [up_n (by first | assumption | (apply Ne.symm; assumption) | decide | omega)])) (fun u h5 h6 => absurd h5 (by omega)) Fr.rf
  · rw [hF (q + 2) (by simp), up_n g2]; exact he
  · exact (Fr.up Fr.rf (by simp)).trans (hF.wide (by simp))
theorem lp_meanOf {x : CX} {d N : Nat} {σ : PH} {Q : PQ} {q : Nat} {p s : Int} {cn er : Int → Int} (hq : σ q = pcO 2 [vI p, vI s, vR (q + 1), vR (q + 2)]) (hc : σ (q + 1) = pcI 0 16 cn) (he : σ (q + 2) = pcI 0 96 er) (hp : 0 ≤ p ∧ p ≤ 8) (hd : 2 ≤ d) {k w : Int} (hk : 0 ≤ k ∧ k < p) (hw : 0 ≤ w ∧ w < 2) (hcn : 0 ≤ cn (k * 2 + w) ∧ cn (k * 2 + w) ≤ 6) (h0 : cn (k * 2 + w) ≠ 0) (hb : ∀ j, 0 ≤ j ∧ j < cn (k * 2 + w) → -40 ≤ er ((k * 2 + w) * 6 + j) ∧ er ((k * 2 + w) * 6 + j) ≤ 40) (h : Q (some (vI ((sumF er ((k * 2 + w) * 6) (cn (k * 2 + w)).toNat * 60).tdiv (cn (k * 2 + w))))) σ) : ∀ (t j : Nat), (j : Int) ≤ cn (k * 2 + w) → cn (k * 2 + w) - j < t → P x d mX2_meanOf Q (0, 0) 19 [some (vR q), some (vI k), some (vI w), some (vI (cn (k * 2 + w))), some (vI (sumF er ((k * 2 + w) * 6) j)), some (vI j)] [] N σ := by
  intro t
  induction t with
  | zero =>
    intro j hj ht
    exfalso; omega
  | succ t ih =>
    intro j hj ht
    refine P.iload (dq dtX2_meanOf 13 rfl) rfl ?_
    refine P.iload_n (dq dtX2_meanOf 14 rfl) rfl ?_
    refine P.icmp_ge (t := 44) (dq dtX2_meanOf 15 rfl) rfl (by omega) (by omega) (fun c_22 => ?_) (fun c_22 => ?_)
    · obtain rfl : j = (cn (k * 2 + w)).toNat := by omega
      have hs := sumF_b (f := er) (a := (k * 2 + w) * 6) (c := 40) (by omega) (cn (k * 2 + w)).toNat (fun i hi => hb i (by omega))
      refine P.iload (dq dtX2_meanOf 26 rfl) rfl ?_
      refine P.bipush (dq dtX2_meanOf 27 rfl) rfl ?_
      refine P.imul (dq dtX2_meanOf 28 rfl) ?_
      refine P.iload_n (dq dtX2_meanOf 29 rfl) rfl ?_
      refine P.idiv (dq dtX2_meanOf 30 rfl) (by omega) (by omega) (by omega) ?_
      refine P.iret (dq dtX2_meanOf 31 rfl) rfl rfl rfl ?_
      exact h
    · refine P.iload (dq dtX2_meanOf 16 rfl) rfl ?_
      refine P.aload_n (dq dtX2_meanOf 17 rfl) rfl ?_
      refine P.iload_n (dq dtX2_meanOf 18 rfl) rfl ?_
      refine P.iload_n (dq dtX2_meanOf 19 rfl) rfl ?_
      refine P.iload (dq dtX2_meanOf 20 rfl) rfl ?_
      refine P.callV3 (M' := mX2_errAt) (d' := d - 1) mlX2_47 mcX2_errAt mvX2_errAt (dq dtX2_meanOf 21 rfl) (by omega) (Nat.le_of_ble_eq_true rfl) (by repeat (first | assumption | exact up_s | rw [up_n (by first | assumption | (apply Ne.symm; assumption) | decide | omega)])) rfl ?_
      refine ct_X2_errAt (by repeat (first | assumption | exact up_s | rw [up_n (by first | assumption | (apply Ne.symm; assumption) | decide | omega)])) (by omega) (by omega) (by repeat (first | assumption | exact up_s | rw [up_n (by first | assumption | (apply Ne.symm; assumption) | decide | omega)])) (by repeat (first | assumption | exact up_s | rw [up_n (by first | assumption | (apply Ne.symm; assumption) | decide | omega)])) (by omega) (by omega) (by omega) (fun _ => hcn) (fun n_32 => ?_) (fun n_32 => absurd (by omega) n_32)
      refine P.iadd (dq dtX2_meanOf 22 rfl) ?_
      refine P.istore (dq dtX2_meanOf 23 rfl) (by decide) rfl rfl ?_
      refine P.iinc (dq dtX2_meanOf 24 rfl) rfl (by decide) rfl rfl ?_
      refine P.goto (t := 19) (dq dtX2_meanOf 25 rfl) rfl ?_
      exact ih (j + 1) (by omega) (by omega)
/-- Measured.meanOf -/
theorem ct_X2_meanOf {x : CM} {d N : Nat} {σ : PH} {Q : PQ} {q : Nat} {v : MsV} (hM : Ms σ q v) (hp : 0 ≤ v.1 ∧ v.1 ≤ 8) (hd : 2 ≤ d) {k w : Int} (hk : 0 ≤ k ∧ k < v.1) (hw : 0 ≤ w ∧ w < 2) (hcn : 0 ≤ v.2.2.1 (k * 2 + w) ∧ v.2.2.1 (k * 2 + w) ≤ 6) (hb : ∀ j, 0 ≤ j ∧ j < v.2.2.1 (k * 2 + w) → -40 ≤ v.2.2.2 ((k * 2 + w) * 6 + j) ∧ v.2.2.2 ((k * 2 + w) * 6 + j) ≤ 40) (h : Q (some (vI (m60 v.2.2.1 v.2.2.2 (k * 2 + w)))) σ) : Call x d 0 0 mX2_meanOf [vR q, vI k, vI w] N σ Q := by
  refine Call.of mcX2_meanOf (Nat.le_of_ble_eq_true rfl) (fun y hy => ?_)
  subst hy
  obtain ⟨p, s, cn, er⟩ := v
  obtain ⟨hq, hc, he⟩ := hM
  dsimp only at hcn hb hq hc he hp hk h
  unfold m60 at h
  refine P.aload_n (dq dtX2_meanOf 0 rfl) rfl ?_
  refine P.iload_n (dq dtX2_meanOf 1 rfl) rfl ?_
  refine P.iload_n (dq dtX2_meanOf 2 rfl) rfl ?_
  refine P.callV2 (M' := mX2_countAt) (d' := d - 1) mlX2_44 mcX2_countAt mvX2_countAt (dq dtX2_meanOf 3 rfl) (by omega) (Nat.le_of_ble_eq_true rfl) (by repeat (first | assumption | exact up_s | rw [up_n (by first | assumption | (apply Ne.symm; assumption) | decide | omega)])) rfl ?_
  refine ct_X2_countAt (by repeat (first | assumption | exact up_s | rw [up_n (by first | assumption | (apply Ne.symm; assumption) | decide | omega)])) (by omega) (by omega) (by repeat (first | assumption | exact up_s | rw [up_n (by first | assumption | (apply Ne.symm; assumption) | decide | omega)])) (by omega) (by omega) (fun n_3 => ?_) (fun n_3 => absurd (by omega) n_3)
  refine P.istore_n (dq dtX2_meanOf 4 rfl) (by decide) rfl rfl ?_
  refine P.iload_n (dq dtX2_meanOf 5 rfl) rfl ?_
  refine P.if_ne (t := 13) (dq dtX2_meanOf 6 rfl) rfl (by omega) (fun c_8 => ?_) (fun c_8 => ?_)
  · refine P.iconst (dq dtX2_meanOf 9 rfl) ?_
    refine P.istore (dq dtX2_meanOf 10 rfl) (by decide) rfl rfl ?_
    refine P.iconst (dq dtX2_meanOf 11 rfl) ?_
    refine P.istore (dq dtX2_meanOf 12 rfl) (by decide) rfl rfl ?_
    rw [if_neg (show ¬ cn (k * 2 + w) = 0 by omega)] at h
    exact lp_meanOf hq hc he hp hd hk hw hcn (by omega) hb h 8 0 (by omega) (by omega)
  · refine P.iconst (dq dtX2_meanOf 7 rfl) ?_
    refine P.iret (dq dtX2_meanOf 8 rfl) rfl rfl rfl ?_
    rw [if_pos (show cn (k * 2 + w) = 0 by omega)] at h
    exact h
theorem lp_countOfAll {x : CX} {d N : Nat} {σ : PH} {Q : PQ} {q : Nat} {p s : Int} {cn : Int → Int} (hq : σ q = pcO 2 [vI p, vI s, vR (q + 1), vR (q + 2)]) (hc : σ (q + 1) = pcI 0 16 cn) (h : Q (some (vI (sumF cn 0 16))) σ) : ∀ (t j : Nat), j ≤ 16 → 16 - j < t → P x d mX2_countOfAll Q (0, 0) 4 [some (vR q), some (vI (sumF cn 0 j)), some (vI j)] [] N σ := by
  intro t
  induction t with
  | zero =>
    intro j hj ht
    exfalso; omega
  | succ t ih =>
    intro j hj ht
    refine P.iload_n (dq dtX2_countOfAll 4 rfl) rfl ?_
    refine P.aload_n (dq dtX2_countOfAll 5 rfl) rfl ?_
    refine P.get flX2_18 (dq dtX2_countOfAll 6 rfl) (by repeat (first | assumption | exact up_s | rw [up_n (by first | assumption | (apply Ne.symm; assumption) | decide | omega)])) (by rfl) ?_
    refine P.alen (dq dtX2_countOfAll 7 rfl) (by repeat (first | assumption | exact up_s | rw [up_n (by first | assumption | (apply Ne.symm; assumption) | decide | omega)])) (by decide) ?_
    refine P.icmp_ge (t := 28) (dq dtX2_countOfAll 8 rfl) rfl (by omega) (by omega) (fun c_10 => ?_) (fun c_10 => ?_)
    · refine P.iload_n (dq dtX2_countOfAll 18 rfl) rfl ?_
      refine P.iret (dq dtX2_countOfAll 19 rfl) rfl rfl rfl ?_
      obtain rfl : j = 16 := by omega
      exact h
    · refine P.iload_n (dq dtX2_countOfAll 9 rfl) rfl ?_
      refine P.aload_n (dq dtX2_countOfAll 10 rfl) rfl ?_
      refine P.get flX2_18 (dq dtX2_countOfAll 11 rfl) (by repeat (first | assumption | exact up_s | rw [up_n (by first | assumption | (apply Ne.symm; assumption) | decide | omega)])) (by rfl) ?_
      refine P.iload_n (dq dtX2_countOfAll 12 rfl) rfl ?_
      refine P.iald (dq dtX2_countOfAll 13 rfl) (by repeat (first | assumption | exact up_s | rw [up_n (by first | assumption | (apply Ne.symm; assumption) | decide | omega)])) (by omega) (by omega) (by omega) ?_
      refine P.iadd (dq dtX2_countOfAll 14 rfl) ?_
      refine P.istore_n (dq dtX2_countOfAll 15 rfl) (by decide) rfl rfl ?_
      refine P.iinc (dq dtX2_countOfAll 16 rfl) rfl (by decide) rfl rfl ?_
      refine P.goto (t := 4) (dq dtX2_countOfAll 17 rfl) rfl ?_
      rw [show sumF cn 0 j + cn j = sumF cn 0 (j + 1) by show _ = sumF cn 0 j + cn (0 + j); rw [Int.zero_add]]
      exact ih (j + 1) (by omega) (by omega)
/-- Measured.countOfAll -/
theorem ct_X2_countOfAll {x : CM} {d N : Nat} {σ : PH} {Q : PQ} {q : Nat} {v : MsV} (hM : Ms σ q v) (h : Q (some (vI (sumF v.2.2.1 0 16))) σ) : Call x d 0 0 mX2_countOfAll [vR q] N σ Q := by
  refine Call.of mcX2_countOfAll (Nat.le_of_ble_eq_true rfl) (fun y hy => ?_)
  subst hy
  obtain ⟨p, s, cn, er⟩ := v
  obtain ⟨hq, hc, he⟩ := hM
  dsimp only at hq hc he h
  refine P.iconst (dq dtX2_countOfAll 0 rfl) ?_
  refine P.istore_n (dq dtX2_countOfAll 1 rfl) (by decide) rfl rfl ?_
  refine P.iconst (dq dtX2_countOfAll 2 rfl) ?_
  refine P.istore_n (dq dtX2_countOfAll 3 rfl) (by decide) rfl rfl ?_
  exact lp_countOfAll hq hc h 17 0 (by omega) (by omega)
/-- Measured.copyFrom -/
theorem ct_X2_copyFrom {x : CM} {d N : Nat} {σ : PH} {Q : PQ} {q q2 : Nat} {v w : MsV} (hM : Ms σ q v) (hM2 : Ms σ q2 w) (hqq : q + 2 < q2 ∨ q2 + 2 < q) (hd : 1 ≤ d) (h : ∀ σ' : PH, Ms σ' q w → Fr σ σ' [q, q + 1, q + 2] → Q none σ') : Call x d 0 0 mX2_copyFrom [vR q, vR q2] N σ Q := by
  refine Call.of mcX2_copyFrom (Nat.le_of_ble_eq_true rfl) (fun y hy => ?_)
  subst hy
  obtain ⟨p, s, cn, er⟩ := v
  obtain ⟨p2, s2, cn2, er2⟩ := w
  obtain ⟨hq, hc, he⟩ := hM
  obtain ⟨hq2, hc2, he2⟩ := hM2
  dsimp only at hq hc he hq2 hc2 he2 h
  refine P.aload_n (dq dtX2_copyFrom 0 rfl) rfl ?_
  refine P.aload_n (dq dtX2_copyFrom 1 rfl) rfl ?_
  refine P.get flX2_9 (dq dtX2_copyFrom 2 rfl) (by repeat (first | assumption | exact up_s | rw [up_n (by first | assumption | (apply Ne.symm; assumption) | decide | omega)])) (by rfl) ?_
  refine P.put flX2_9 rfl (dq dtX2_copyFrom 3 rfl) (by repeat (first | assumption | exact up_s | rw [up_n (by first | assumption | (apply Ne.symm; assumption) | decide | omega)])) (by exact Nat.le_of_ble_eq_true rfl) rfl rfl rfl rfl rfl ?_
  refine P.aload_n (dq dtX2_copyFrom 4 rfl) rfl ?_
  refine P.aload_n (dq dtX2_copyFrom 5 rfl) rfl ?_
  refine P.get flX2_15 (dq dtX2_copyFrom 6 rfl) (by repeat (first | assumption | exact up_s | rw [up_n (by first | assumption | (apply Ne.symm; assumption) | decide | omega)])) (by rfl) ?_
  refine P.put flX2_15 rfl (dq dtX2_copyFrom 7 rfl) (by repeat (first | assumption | exact up_s | rw [up_n (by first | assumption | (apply Ne.symm; assumption) | decide | omega)])) (by exact Nat.le_of_ble_eq_true rfl) rfl rfl rfl rfl rfl ?_
  refine P.aload_n (dq dtX2_copyFrom 8 rfl) rfl ?_
  refine P.get flX2_18 (dq dtX2_copyFrom 9 rfl) (by repeat (first | assumption | exact up_s | rw [up_n (by first | assumption | (apply Ne.symm; assumption) | decide | omega)])) (by rfl) ?_
  refine P.iconst (dq dtX2_copyFrom 10 rfl) ?_
  refine P.aload_n (dq dtX2_copyFrom 11 rfl) rfl ?_
  refine P.get flX2_18 (dq dtX2_copyFrom 12 rfl) (by repeat (first | assumption | exact up_s | rw [up_n (by first | assumption | (apply Ne.symm; assumption) | decide | omega)])) (by rfl) ?_
  refine P.iconst (dq dtX2_copyFrom 13 rfl) ?_
  refine P.aload_n (dq dtX2_copyFrom 14 rfl) rfl ?_
  refine P.get flX2_18 (dq dtX2_copyFrom 15 rfl) (by repeat (first | assumption | exact up_s | rw [up_n (by first | assumption | (apply Ne.symm; assumption) | decide | omega)])) (by rfl) ?_
  refine P.alen (dq dtX2_copyFrom 16 rfl) (by repeat (first | assumption | exact up_s | rw [up_n (by first | assumption | (apply Ne.symm; assumption) | decide | omega)])) (by decide) ?_
  refine P.copyI (dq dtX2_copyFrom 17 rfl) mlX2_38 (by repeat (first | assumption | exact up_s | rw [up_n (by first | assumption | (apply Ne.symm; assumption) | decide | omega)])) (by repeat (first | assumption | exact up_s | rw [up_n (by first | assumption | (apply Ne.symm; assumption) | decide | omega)])) (by omega) (by omega) (by omega) (by omega) (by omega) (by omega) (by omega) (by omega) (Nat.le_of_ble_eq_true rfl) ?_
  refine P.ext (f' := cn2) up_s (fun u h5 h6 => by { unfold cpI; rw [if_pos (by omega)]; congr 1; omega }) ?_
  refine P.aload_n (dq dtX2_copyFrom 18 rfl) rfl ?_
  refine P.get flX2_22 (dq dtX2_copyFrom 19 rfl) (by repeat (first | assumption | exact up_s | rw [up_n (by first | assumption | (apply Ne.symm; assumption) | decide | omega)])) (by rfl) ?_
  refine P.iconst (dq dtX2_copyFrom 20 rfl) ?_
  refine P.aload_n (dq dtX2_copyFrom 21 rfl) rfl ?_
  refine P.get flX2_22 (dq dtX2_copyFrom 22 rfl) (by repeat (first | assumption | exact up_s | rw [up_n (by first | assumption | (apply Ne.symm; assumption) | decide | omega)])) (by rfl) ?_
  refine P.iconst (dq dtX2_copyFrom 23 rfl) ?_
  refine P.aload_n (dq dtX2_copyFrom 24 rfl) rfl ?_
  refine P.get flX2_22 (dq dtX2_copyFrom 25 rfl) (by repeat (first | assumption | exact up_s | rw [up_n (by first | assumption | (apply Ne.symm; assumption) | decide | omega)])) (by rfl) ?_
  refine P.alen (dq dtX2_copyFrom 26 rfl) (by repeat (first | assumption | exact up_s | rw [up_n (by first | assumption | (apply Ne.symm; assumption) | decide | omega)])) (by decide) ?_
  refine P.copyI (dq dtX2_copyFrom 27 rfl) mlX2_38 (by repeat (first | assumption | exact up_s | rw [up_n (by first | assumption | (apply Ne.symm; assumption) | decide | omega)])) (by repeat (first | assumption | exact up_s | rw [up_n (by first | assumption | (apply Ne.symm; assumption) | decide | omega)])) (by omega) (by omega) (by omega) (by omega) (by omega) (by omega) (by omega) (by omega) (Nat.le_of_ble_eq_true rfl) ?_
  refine P.ext (f' := er2) up_s (fun u h5 h6 => by { unfold cpI; rw [if_pos (by omega)]; congr 1; omega }) ?_
  refine P.vret (dq dtX2_copyFrom 28 rfl) rfl rfl rfl ?_
  exact h _ ⟨(by repeat (first | assumption | exact up_s | rw [up_n (by first | assumption | (apply Ne.symm; assumption) | decide | omega)])), (by repeat (first | assumption | exact up_s | rw [up_n (by first | assumption | (apply Ne.symm; assumption) | decide | omega)])), (by repeat (first | assumption | exact up_s | rw [up_n (by first | assumption | (apply Ne.symm; assumption) | decide | omega)]))⟩ (by repeat (first | assumption | exact Fr.rf | refine Fr.up ?_ (by simp)))
end
section
/-- Moment.rest -/
theorem ct_X3_rest {x : CM} {d N : Nat} {σ : PH} {Q : PQ} {q : Nat} {v : MoV} (hM : Mo σ q v) {z : Int} (h : ∀ σ' : PH, Mo σ' q (v.1, 0, z, 0, 0, 1) → Fr σ σ' [q] → Q none σ') : Call x d 0 0 mX3_rest [vR q, vI z] N σ Q := by
  refine Call.of mcX3_rest (Nat.le_of_ble_eq_true rfl) (fun y hy => ?_)
  subst hy
  obtain ⟨v1, pl, sc, tu, tr, wu⟩ := v
  obtain ⟨hq, hM⟩ := hM
  dsimp only at hq hM h
  refine P.aload_n (dq dtX3_rest 0 rfl) rfl ?_
  refine P.iconst (dq dtX3_rest 1 rfl) ?_
  refine P.put flX3_16 rfl (dq dtX3_rest 2 rfl) (by repeat (first | assumption | exact up_s | rw [up_n (by first | assumption | (apply Ne.symm; assumption) | decide | omega)])) (by exact Nat.le_of_ble_eq_true rfl) rfl rfl rfl rfl rfl ?_
  refine P.aload_n (dq dtX3_rest 3 rfl) rfl ?_
  refine P.iload_n (dq dtX3_rest 4 rfl) rfl ?_
  refine P.put flX3_20 rfl (dq dtX3_rest 5 rfl) (by repeat (first | assumption | exact up_s | rw [up_n (by first | assumption | (apply Ne.symm; assumption) | decide | omega)])) (by exact Nat.le_of_ble_eq_true rfl) rfl rfl rfl rfl rfl ?_
  refine P.aload_n (dq dtX3_rest 6 rfl) rfl ?_
  refine P.iconst (dq dtX3_rest 7 rfl) ?_
  refine P.put flX3_23 rfl (dq dtX3_rest 8 rfl) (by repeat (first | assumption | exact up_s | rw [up_n (by first | assumption | (apply Ne.symm; assumption) | decide | omega)])) (by exact Nat.le_of_ble_eq_true rfl) rfl rfl rfl rfl rfl ?_
  refine P.aload_n (dq dtX3_rest 9 rfl) rfl ?_
  refine P.iconst (dq dtX3_rest 10 rfl) ?_
  refine P.put flX3_26 rfl (dq dtX3_rest 11 rfl) (by repeat (first | assumption | exact up_s | rw [up_n (by first | assumption | (apply Ne.symm; assumption) | decide | omega)])) (by exact Nat.le_of_ble_eq_true rfl) rfl rfl rfl rfl rfl ?_
  refine P.aload_n (dq dtX3_rest 12 rfl) rfl ?_
  refine P.iconst (dq dtX3_rest 13 rfl) ?_
  refine P.put flX3_29 rfl (dq dtX3_rest 14 rfl) (by repeat (first | assumption | exact up_s | rw [up_n (by first | assumption | (apply Ne.symm; assumption) | decide | omega)])) (by exact Nat.le_of_ble_eq_true rfl) rfl rfl rfl rfl rfl ?_
  refine P.vret (dq dtX3_rest 15 rfl) rfl rfl rfl ?_
  exact h _ ⟨(by repeat (first | assumption | exact up_s | rw [up_n (by first | assumption | (apply Ne.symm; assumption) | decide | omega)])), hM.fr (S := [q]) (by repeat (first | assumption | exact Fr.rf | refine Fr.up ?_ (by simp))) (by simp <;> omega) (by simp <;> omega) (by simp <;> omega)⟩ (by repeat (first | assumption | exact Fr.rf | refine Fr.up ?_ (by simp)))
/-- Moment.go -/
theorem ct_X3_go {x : CM} {d N : Nat} {σ : PH} {Q : PQ} {q : Nat} {v : MoV} (hM : Mo σ q v) (hd : 1 ≤ d) {a z u : Int} (hu : u = 0 ∨ u = 1) (hwu : v.2.2.2.2.2 = 0 ∨ v.2.2.2.2.2 = 1) (hz : -100000 ≤ z ∧ z ≤ 100000) (hs : -100000 ≤ v.2.2.1 ∧ v.2.2.1 ≤ 100000) (h : ∀ σ' : PH, Mo σ' q (v.1, a, z, if u = v.2.2.2.2.2 then v.2.2.2.1 else v.2.2.2.1 + 1, v.2.2.2.2.1 + (if 0 ≤ z - v.2.2.1 then z - v.2.2.1 else -(z - v.2.2.1)), u) → Fr σ σ' [q] → Q none σ') : Call x d 0 0 mX3_go [vR q, vI a, vI z, vI u] N σ Q := by
  refine Call.of mcX3_go (Nat.le_of_ble_eq_true rfl) (fun y hy => ?_)
  subst hy
  obtain ⟨v1, pl, sc, tu, tr, wu⟩ := v
  obtain ⟨hq, hM⟩ := hM
  dsimp only at hwu hs hq hM h
  refine P.iload_n (dq dtX3_go 0 rfl) rfl ?_
  refine P.aload_n (dq dtX3_go 1 rfl) rfl ?_
  refine P.get flX3_29 (dq dtX3_go 2 rfl) (by repeat (first | assumption | exact up_s | rw [up_n (by first | assumption | (apply Ne.symm; assumption) | decide | omega)])) (by rfl) ?_
  refine P.icmp_eq (t := 18) (dq dtX3_go 3 rfl) rfl (by omega) (by omega) (fun c_5 => ?_) (fun c_5 => ?_)
  · refine P.aload_n (dq dtX3_go 10 rfl) rfl ?_
    refine P.dup (dq dtX3_go 11 rfl) rfl ?_
    refine P.get flX3_26 (dq dtX3_go 12 rfl) (by repeat (first | assumption | exact up_s | rw [up_n (by first | assumption | (apply Ne.symm; assumption) | decide | omega)])) (by rfl) ?_
    refine P.iload_n (dq dtX3_go 13 rfl) rfl ?_
    refine P.aload_n (dq dtX3_go 14 rfl) rfl ?_
    refine P.get flX3_20 (dq dtX3_go 15 rfl) (by repeat (first | assumption | exact up_s | rw [up_n (by first | assumption | (apply Ne.symm; assumption) | decide | omega)])) (by rfl) ?_
    refine P.isub (dq dtX3_go 16 rfl) ?_
    refine P.callS1 (M' := mJ9_abs_0f7a4) (d' := d - 1) mlX3_33 mcJ9_abs_0f7a4 msJ9_abs_0f7a4 (dq dtX3_go 17 rfl) (by omega) (Nat.le_of_ble_eq_true rfl) ?_
    refine ct_abs (by omega) (fun n_29 => ?_) (fun n_29 => ?_)
    · refine P.iadd (dq dtX3_go 18 rfl) ?_
      refine P.put flX3_26 rfl (dq dtX3_go 19 rfl) (by repeat (first | assumption | exact up_s | rw [up_n (by first | assumption | (apply Ne.symm; assumption) | decide | omega)])) (by exact Nat.le_of_ble_eq_true rfl) rfl rfl rfl rfl rfl ?_
      refine P.aload_n (dq dtX3_go 20 rfl) rfl ?_
      refine P.iload_n (dq dtX3_go 21 rfl) rfl ?_
      refine P.put flX3_16 rfl (dq dtX3_go 22 rfl) (by repeat (first | assumption | exact up_s | rw [up_n (by first | assumption | (apply Ne.symm; assumption) | decide | omega)])) (by exact Nat.le_of_ble_eq_true rfl) rfl rfl rfl rfl rfl ?_
      refine P.aload_n (dq dtX3_go 23 rfl) rfl ?_
      refine P.iload_n (dq dtX3_go 24 rfl) rfl ?_
      refine P.put flX3_20 rfl (dq dtX3_go 25 rfl) (by repeat (first | assumption | exact up_s | rw [up_n (by first | assumption | (apply Ne.symm; assumption) | decide | omega)])) (by exact Nat.le_of_ble_eq_true rfl) rfl rfl rfl rfl rfl ?_
      refine P.aload_n (dq dtX3_go 26 rfl) rfl ?_
      refine P.iload_n (dq dtX3_go 27 rfl) rfl ?_
      refine P.put flX3_29 rfl (dq dtX3_go 28 rfl) (by repeat (first | assumption | exact up_s | rw [up_n (by first | assumption | (apply Ne.symm; assumption) | decide | omega)])) (by exact Nat.le_of_ble_eq_true rfl) rfl rfl (bz_nar (by omega)) (bz_fit (by omega)) rfl ?_
      refine P.vret (dq dtX3_go 29 rfl) rfl rfl rfl ?_
      first | (rw [if_pos (show u = wu by omega), if_pos (show 0 ≤ z - sc by omega)] at h; exact h _ ⟨(by repeat (first | assumption | exact up_s | rw [up_n (by first | assumption | (apply Ne.symm; assumption) | decide | omega)])), hM.fr (S := [q]) (by repeat (first | assumption | exact Fr.rf | refine Fr.up ?_ (by simp))) (by simp <;> omega) (by simp <;> omega) (by simp <;> omega)⟩ (by repeat (first | assumption | exact Fr.rf | refine Fr.up ?_ (by simp)))) | (rw [if_pos (show u = wu by omega), if_neg (show ¬ 0 ≤ z - sc by omega)] at h; exact h _ ⟨(by repeat (first | assumption | exact up_s | rw [up_n (by first | assumption | (apply Ne.symm; assumption) | decide | omega)])), hM.fr (S := [q]) (by repeat (first | assumption | exact Fr.rf | refine Fr.up ?_ (by simp))) (by simp <;> omega) (by simp <;> omega) (by simp <;> omega)⟩ (by repeat (first | assumption | exact Fr.rf | refine Fr.up ?_ (by simp)))) | (rw [if_neg (show ¬ u = wu by omega), if_pos (show 0 ≤ z - sc by omega)] at h; exact h _ ⟨(by repeat (first | assumption | exact up_s | rw [up_n (by first | assumption | (apply Ne.symm; assumption) | decide | omega)])), hM.fr (S := [q]) (by repeat (first | assumption | exact Fr.rf | refine Fr.up ?_ (by simp))) (by simp <;> omega) (by simp <;> omega) (by simp <;> omega)⟩ (by repeat (first | assumption | exact Fr.rf | refine Fr.up ?_ (by simp)))) | (rw [if_neg (show ¬ u = wu by omega), if_neg (show ¬ 0 ≤ z - sc by omega)] at h; exact h _ ⟨(by repeat (first | assumption | exact up_s | rw [up_n (by first | assumption | (apply Ne.symm; assumption) | decide | omega)])), hM.fr (S := [q]) (by repeat (first | assumption | exact Fr.rf | refine Fr.up ?_ (by simp))) (by simp <;> omega) (by simp <;> omega) (by simp <;> omega)⟩ (by repeat (first | assumption | exact Fr.rf | refine Fr.up ?_ (by simp))))
    · refine P.iadd (dq dtX3_go 18 rfl) ?_
      refine P.put flX3_26 rfl (dq dtX3_go 19 rfl) (by repeat (first | assumption | exact up_s | rw [up_n (by first | assumption | (apply Ne.symm; assumption) | decide | omega)])) (by exact Nat.le_of_ble_eq_true rfl) rfl rfl rfl rfl rfl ?_
      refine P.aload_n (dq dtX3_go 20 rfl) rfl ?_
      refine P.iload_n (dq dtX3_go 21 rfl) rfl ?_
      refine P.put flX3_16 rfl (dq dtX3_go 22 rfl) (by repeat (first | assumption | exact up_s | rw [up_n (by first | assumption | (apply Ne.symm; assumption) | decide | omega)])) (by exact Nat.le_of_ble_eq_true rfl) rfl rfl rfl rfl rfl ?_
      refine P.aload_n (dq dtX3_go 23 rfl) rfl ?_
      refine P.iload_n (dq dtX3_go 24 rfl) rfl ?_
      refine P.put flX3_20 rfl (dq dtX3_go 25 rfl) (by repeat (first | assumption | exact up_s | rw [up_n (by first | assumption | (apply Ne.symm; assumption) | decide | omega)])) (by exact Nat.le_of_ble_eq_true rfl) rfl rfl rfl rfl rfl ?_
      refine P.aload_n (dq dtX3_go 26 rfl) rfl ?_
      refine P.iload_n (dq dtX3_go 27 rfl) rfl ?_
      refine P.put flX3_29 rfl (dq dtX3_go 28 rfl) (by repeat (first | assumption | exact up_s | rw [up_n (by first | assumption | (apply Ne.symm; assumption) | decide | omega)])) (by exact Nat.le_of_ble_eq_true rfl) rfl rfl (bz_nar (by omega)) (bz_fit (by omega)) rfl ?_
      refine P.vret (dq dtX3_go 29 rfl) rfl rfl rfl ?_
      first | (rw [if_pos (show u = wu by omega), if_pos (show 0 ≤ z - sc by omega)] at h; exact h _ ⟨(by repeat (first | assumption | exact up_s | rw [up_n (by first | assumption | (apply Ne.symm; assumption) | decide | omega)])), hM.fr (S := [q]) (by repeat (first | assumption | exact Fr.rf | refine Fr.up ?_ (by simp))) (by simp <;> omega) (by simp <;> omega) (by simp <;> omega)⟩ (by repeat (first | assumption | exact Fr.rf | refine Fr.up ?_ (by simp)))) | (rw [if_pos (show u = wu by omega), if_neg (show ¬ 0 ≤ z - sc by omega)] at h; exact h _ ⟨(by repeat (first | assumption | exact up_s | rw [up_n (by first | assumption | (apply Ne.symm; assumption) | decide | omega)])), hM.fr (S := [q]) (by repeat (first | assumption | exact Fr.rf | refine Fr.up ?_ (by simp))) (by simp <;> omega) (by simp <;> omega) (by simp <;> omega)⟩ (by repeat (first | assumption | exact Fr.rf | refine Fr.up ?_ (by simp)))) | (rw [if_neg (show ¬ u = wu by omega), if_pos (show 0 ≤ z - sc by omega)] at h; exact h _ ⟨(by repeat (first | assumption | exact up_s | rw [up_n (by first | assumption | (apply Ne.symm; assumption) | decide | omega)])), hM.fr (S := [q]) (by repeat (first | assumption | exact Fr.rf | refine Fr.up ?_ (by simp))) (by simp <;> omega) (by simp <;> omega) (by simp <;> omega)⟩ (by repeat (first | assumption | exact Fr.rf | refine Fr.up ?_ (by simp)))) | (rw [if_neg (show ¬ u = wu by omega), if_neg (show ¬ 0 ≤ z - sc by omega)] at h; exact h _ ⟨(by repeat (first | assumption | exact up_s | rw [up_n (by first | assumption | (apply Ne.symm; assumption) | decide | omega)])), hM.fr (S := [q]) (by repeat (first | assumption | exact Fr.rf | refine Fr.up ?_ (by simp))) (by simp <;> omega) (by simp <;> omega) (by simp <;> omega)⟩ (by repeat (first | assumption | exact Fr.rf | refine Fr.up ?_ (by simp))))
  · refine P.aload_n (dq dtX3_go 4 rfl) rfl ?_
    refine P.dup (dq dtX3_go 5 rfl) rfl ?_
    refine P.get flX3_23 (dq dtX3_go 6 rfl) (by repeat (first | assumption | exact up_s | rw [up_n (by first | assumption | (apply Ne.symm; assumption) | decide | omega)])) (by rfl) ?_
    refine P.iconst (dq dtX3_go 7 rfl) ?_
    refine P.iadd (dq dtX3_go 8 rfl) ?_
    refine P.put flX3_23 rfl (dq dtX3_go 9 rfl) (by repeat (first | assumption | exact up_s | rw [up_n (by first | assumption | (apply Ne.symm; assumption) | decide | omega)])) (by exact Nat.le_of_ble_eq_true rfl) rfl rfl rfl rfl rfl ?_
    refine P.aload_n (dq dtX3_go 10 rfl) rfl ?_
    refine P.dup (dq dtX3_go 11 rfl) rfl ?_
    refine P.get flX3_26 (dq dtX3_go 12 rfl) (by repeat (first | assumption | exact up_s | rw [up_n (by first | assumption | (apply Ne.symm; assumption) | decide | omega)])) (by rfl) ?_
    refine P.iload_n (dq dtX3_go 13 rfl) rfl ?_
    refine P.aload_n (dq dtX3_go 14 rfl) rfl ?_
    refine P.get flX3_20 (dq dtX3_go 15 rfl) (by repeat (first | assumption | exact up_s | rw [up_n (by first | assumption | (apply Ne.symm; assumption) | decide | omega)])) (by rfl) ?_
    refine P.isub (dq dtX3_go 16 rfl) ?_
    refine P.callS1 (M' := mJ9_abs_0f7a4) (d' := d - 1) mlX3_33 mcJ9_abs_0f7a4 msJ9_abs_0f7a4 (dq dtX3_go 17 rfl) (by omega) (Nat.le_of_ble_eq_true rfl) ?_
    refine ct_abs (by omega) (fun n_29 => ?_) (fun n_29 => ?_)
    · refine P.iadd (dq dtX3_go 18 rfl) ?_
      refine P.put flX3_26 rfl (dq dtX3_go 19 rfl) (by repeat (first | assumption | exact up_s | rw [up_n (by first | assumption | (apply Ne.symm; assumption) | decide | omega)])) (by exact Nat.le_of_ble_eq_true rfl) rfl rfl rfl rfl rfl ?_
      refine P.aload_n (dq dtX3_go 20 rfl) rfl ?_
      refine P.iload_n (dq dtX3_go 21 rfl) rfl ?_
      refine P.put flX3_16 rfl (dq dtX3_go 22 rfl) (by repeat (first | assumption | exact up_s | rw [up_n (by first | assumption | (apply Ne.symm; assumption) | decide | omega)])) (by exact Nat.le_of_ble_eq_true rfl) rfl rfl rfl rfl rfl ?_
      refine P.aload_n (dq dtX3_go 23 rfl) rfl ?_
      refine P.iload_n (dq dtX3_go 24 rfl) rfl ?_
      refine P.put flX3_20 rfl (dq dtX3_go 25 rfl) (by repeat (first | assumption | exact up_s | rw [up_n (by first | assumption | (apply Ne.symm; assumption) | decide | omega)])) (by exact Nat.le_of_ble_eq_true rfl) rfl rfl rfl rfl rfl ?_
      refine P.aload_n (dq dtX3_go 26 rfl) rfl ?_
      refine P.iload_n (dq dtX3_go 27 rfl) rfl ?_
      refine P.put flX3_29 rfl (dq dtX3_go 28 rfl) (by repeat (first | assumption | exact up_s | rw [up_n (by first | assumption | (apply Ne.symm; assumption) | decide | omega)])) (by exact Nat.le_of_ble_eq_true rfl) rfl rfl (bz_nar (by omega)) (bz_fit (by omega)) rfl ?_
      refine P.vret (dq dtX3_go 29 rfl) rfl rfl rfl ?_
      first | (rw [if_pos (show u = wu by omega), if_pos (show 0 ≤ z - sc by omega)] at h; exact h _ ⟨(by repeat (first | assumption | exact up_s | rw [up_n (by first | assumption | (apply Ne.symm; assumption) | decide | omega)])), hM.fr (S := [q]) (by repeat (first | assumption | exact Fr.rf | refine Fr.up ?_ (by simp))) (by simp <;> omega) (by simp <;> omega) (by simp <;> omega)⟩ (by repeat (first | assumption | exact Fr.rf | refine Fr.up ?_ (by simp)))) | (rw [if_pos (show u = wu by omega), if_neg (show ¬ 0 ≤ z - sc by omega)] at h; exact h _ ⟨(by repeat (first | assumption | exact up_s | rw [up_n (by first | assumption | (apply Ne.symm; assumption) | decide | omega)])), hM.fr (S := [q]) (by repeat (first | assumption | exact Fr.rf | refine Fr.up ?_ (by simp))) (by simp <;> omega) (by simp <;> omega) (by simp <;> omega)⟩ (by repeat (first | assumption | exact Fr.rf | refine Fr.up ?_ (by simp)))) | (rw [if_neg (show ¬ u = wu by omega), if_pos (show 0 ≤ z - sc by omega)] at h; exact h _ ⟨(by repeat (first | assumption | exact up_s | rw [up_n (by first | assumption | (apply Ne.symm; assumption) | decide | omega)])), hM.fr (S := [q]) (by repeat (first | assumption | exact Fr.rf | refine Fr.up ?_ (by simp))) (by simp <;> omega) (by simp <;> omega) (by simp <;> omega)⟩ (by repeat (first | assumption | exact Fr.rf | refine Fr.up ?_ (by simp)))) | (rw [if_neg (show ¬ u = wu by omega), if_neg (show ¬ 0 ≤ z - sc by omega)] at h; exact h _ ⟨(by repeat (first | assumption | exact up_s | rw [up_n (by first | assumption | (apply Ne.symm; assumption) | decide | omega)])), hM.fr (S := [q]) (by repeat (first | assumption | exact Fr.rf | refine Fr.up ?_ (by simp))) (by simp <;> omega) (by simp <;> omega) (by simp <;> omega)⟩ (by repeat (first | assumption | exact Fr.rf | refine Fr.up ?_ (by simp))))
    · refine P.iadd (dq dtX3_go 18 rfl) ?_
      refine P.put flX3_26 rfl (dq dtX3_go 19 rfl) (by repeat (first | assumption | exact up_s | rw [up_n (by first | assumption | (apply Ne.symm; assumption) | decide | omega)])) (by exact Nat.le_of_ble_eq_true rfl) rfl rfl rfl rfl rfl ?_
      refine P.aload_n (dq dtX3_go 20 rfl) rfl ?_
      refine P.iload_n (dq dtX3_go 21 rfl) rfl ?_
      refine P.put flX3_16 rfl (dq dtX3_go 22 rfl) (by repeat (first | assumption | exact up_s | rw [up_n (by first | assumption | (apply Ne.symm; assumption) | decide | omega)])) (by exact Nat.le_of_ble_eq_true rfl) rfl rfl rfl rfl rfl ?_
      refine P.aload_n (dq dtX3_go 23 rfl) rfl ?_
      refine P.iload_n (dq dtX3_go 24 rfl) rfl ?_
      refine P.put flX3_20 rfl (dq dtX3_go 25 rfl) (by repeat (first | assumption | exact up_s | rw [up_n (by first | assumption | (apply Ne.symm; assumption) | decide | omega)])) (by exact Nat.le_of_ble_eq_true rfl) rfl rfl rfl rfl rfl ?_
      refine P.aload_n (dq dtX3_go 26 rfl) rfl ?_
      refine P.iload_n (dq dtX3_go 27 rfl) rfl ?_
      refine P.put flX3_29 rfl (dq dtX3_go 28 rfl) (by repeat (first | assumption | exact up_s | rw [up_n (by first | assumption | (apply Ne.symm; assumption) | decide | omega)])) (by exact Nat.le_of_ble_eq_true rfl) rfl rfl (bz_nar (by omega)) (bz_fit (by omega)) rfl ?_
      refine P.vret (dq dtX3_go 29 rfl) rfl rfl rfl ?_
      first | (rw [if_pos (show u = wu by omega), if_pos (show 0 ≤ z - sc by omega)] at h; exact h _ ⟨(by repeat (first | assumption | exact up_s | rw [up_n (by first | assumption | (apply Ne.symm; assumption) | decide | omega)])), hM.fr (S := [q]) (by repeat (first | assumption | exact Fr.rf | refine Fr.up ?_ (by simp))) (by simp <;> omega) (by simp <;> omega) (by simp <;> omega)⟩ (by repeat (first | assumption | exact Fr.rf | refine Fr.up ?_ (by simp)))) | (rw [if_pos (show u = wu by omega), if_neg (show ¬ 0 ≤ z - sc by omega)] at h; exact h _ ⟨(by repeat (first | assumption | exact up_s | rw [up_n (by first | assumption | (apply Ne.symm; assumption) | decide | omega)])), hM.fr (S := [q]) (by repeat (first | assumption | exact Fr.rf | refine Fr.up ?_ (by simp))) (by simp <;> omega) (by simp <;> omega) (by simp <;> omega)⟩ (by repeat (first | assumption | exact Fr.rf | refine Fr.up ?_ (by simp)))) | (rw [if_neg (show ¬ u = wu by omega), if_pos (show 0 ≤ z - sc by omega)] at h; exact h _ ⟨(by repeat (first | assumption | exact up_s | rw [up_n (by first | assumption | (apply Ne.symm; assumption) | decide | omega)])), hM.fr (S := [q]) (by repeat (first | assumption | exact Fr.rf | refine Fr.up ?_ (by simp))) (by simp <;> omega) (by simp <;> omega) (by simp <;> omega)⟩ (by repeat (first | assumption | exact Fr.rf | refine Fr.up ?_ (by simp)))) | (rw [if_neg (show ¬ u = wu by omega), if_neg (show ¬ 0 ≤ z - sc by omega)] at h; exact h _ ⟨(by repeat (first | assumption | exact up_s | rw [up_n (by first | assumption | (apply Ne.symm; assumption) | decide | omega)])), hM.fr (S := [q]) (by repeat (first | assumption | exact Fr.rf | refine Fr.up ?_ (by simp))) (by simp <;> omega) (by simp <;> omega) (by simp <;> omega)⟩ (by repeat (first | assumption | exact Fr.rf | refine Fr.up ?_ (by simp))))
/-- Moment.copyFrom -/
theorem ct_X3_copyFrom {x : CM} {d N : Nat} {σ : PH} {Q : PQ} {q q2 : Nat} {v w : MoV} (hM : Mo σ q v) (hM2 : Mo σ q2 w) (hqq : q + 3 < q2 ∨ q2 + 3 < q) (hwu : w.2.2.2.2.2 = 0 ∨ w.2.2.2.2.2 = 1) (hd : 2 ≤ d) (h : ∀ σ' : PH, Mo σ' q w → Fr σ σ' [q, q + 1, q + 2, q + 3] → Q none σ') : Call x d 0 0 mX3_copyFrom [vR q, vR q2] N σ Q := by
  refine Call.of mcX3_copyFrom (Nat.le_of_ble_eq_true rfl) (fun y hy => ?_)
  subst hy
  obtain ⟨v1, pl, sc, tu, tr, wu⟩ := v
  obtain ⟨w1, pl2, sc2, tu2, tr2, wu2⟩ := w
  obtain ⟨hq, hM⟩ := hM
  obtain ⟨hq2, hM2⟩ := hM2
  dsimp only at hq hM hq2 hM2 h hwu
  have hMq := hM.1
  refine P.aload_n (dq dtX3_copyFrom 0 rfl) rfl ?_
  refine P.get flX3_10 (dq dtX3_copyFrom 1 rfl) (by repeat (first | assumption | exact up_s | rw [up_n (by first | assumption | (apply Ne.symm; assumption) | decide | omega)])) (by rfl) ?_
  refine P.aload_n (dq dtX3_copyFrom 2 rfl) rfl ?_
  refine P.get flX3_10 (dq dtX3_copyFrom 3 rfl) (by repeat (first | assumption | exact up_s | rw [up_n (by first | assumption | (apply Ne.symm; assumption) | decide | omega)])) (by rfl) ?_
  refine P.callV1 (M' := mX2_copyFrom) (d' := d - 1) mlX3_39 mcX2_copyFrom mvX2_copyFrom (dq dtX3_copyFrom 4 rfl) (by omega) (Nat.le_of_ble_eq_true rfl) (by repeat (first | assumption | exact up_s | rw [up_n (by first | assumption | (apply Ne.symm; assumption) | decide | omega)])) rfl ?_
  refine ct_X2_copyFrom hM hM2 (by omega) (by omega) (fun σ1 hM1 hF1 => ?_)
  have hqA : σ1 q = pcO 3 [vR (q + 1), vI pl, vI sc, vI tu, vI tr, vI wu] := (hF1 q (by simp <;> omega)).trans hq
  have hqB : σ1 q2 = pcO 3 [vR (q2 + 1), vI pl2, vI sc2, vI tu2, vI tr2, vI wu2] := (hF1 q2 (by simp <;> omega)).trans hq2
  have hne : q ≠ q2 := by omega
  refine P.aload_n (dq dtX3_copyFrom 5 rfl) rfl ?_
  refine P.aload_n (dq dtX3_copyFrom 6 rfl) rfl ?_
  refine P.get flX3_16 (dq dtX3_copyFrom 7 rfl) (by repeat (first | assumption | exact up_s | rw [up_n (by first | assumption | (apply Ne.symm; assumption) | decide | omega)])) (by rfl) ?_
  refine P.put flX3_16 rfl (dq dtX3_copyFrom 8 rfl) (by repeat (first | assumption | exact up_s | rw [up_n (by first | assumption | (apply Ne.symm; assumption) | decide | omega)])) (by exact Nat.le_of_ble_eq_true rfl) rfl rfl rfl rfl rfl ?_
  refine P.aload_n (dq dtX3_copyFrom 9 rfl) rfl ?_
  refine P.aload_n (dq dtX3_copyFrom 10 rfl) rfl ?_
  refine P.get flX3_20 (dq dtX3_copyFrom 11 rfl) (by repeat (first | assumption | exact up_s | rw [up_n (by first | assumption | (apply Ne.symm; assumption) | decide | omega)])) (by rfl) ?_
  refine P.put flX3_20 rfl (dq dtX3_copyFrom 12 rfl) (by repeat (first | assumption | exact up_s | rw [up_n (by first | assumption | (apply Ne.symm; assumption) | decide | omega)])) (by exact Nat.le_of_ble_eq_true rfl) rfl rfl rfl rfl rfl ?_
  refine P.aload_n (dq dtX3_copyFrom 13 rfl) rfl ?_
  refine P.aload_n (dq dtX3_copyFrom 14 rfl) rfl ?_
  refine P.get flX3_23 (dq dtX3_copyFrom 15 rfl) (by repeat (first | assumption | exact up_s | rw [up_n (by first | assumption | (apply Ne.symm; assumption) | decide | omega)])) (by rfl) ?_
  refine P.put flX3_23 rfl (dq dtX3_copyFrom 16 rfl) (by repeat (first | assumption | exact up_s | rw [up_n (by first | assumption | (apply Ne.symm; assumption) | decide | omega)])) (by exact Nat.le_of_ble_eq_true rfl) rfl rfl rfl rfl rfl ?_
  refine P.aload_n (dq dtX3_copyFrom 17 rfl) rfl ?_
  refine P.aload_n (dq dtX3_copyFrom 18 rfl) rfl ?_
  refine P.get flX3_26 (dq dtX3_copyFrom 19 rfl) (by repeat (first | assumption | exact up_s | rw [up_n (by first | assumption | (apply Ne.symm; assumption) | decide | omega)])) (by rfl) ?_
  refine P.put flX3_26 rfl (dq dtX3_copyFrom 20 rfl) (by repeat (first | assumption | exact up_s | rw [up_n (by first | assumption | (apply Ne.symm; assumption) | decide | omega)])) (by exact Nat.le_of_ble_eq_true rfl) rfl rfl rfl rfl rfl ?_
  refine P.aload_n (dq dtX3_copyFrom 21 rfl) rfl ?_
  refine P.aload_n (dq dtX3_copyFrom 22 rfl) rfl ?_
  refine P.get flX3_29 (dq dtX3_copyFrom 23 rfl) (by repeat (first | assumption | exact up_s | rw [up_n (by first | assumption | (apply Ne.symm; assumption) | decide | omega)])) (by rfl) ?_
  refine P.put flX3_29 rfl (dq dtX3_copyFrom 24 rfl) (by repeat (first | assumption | exact up_s | rw [up_n (by first | assumption | (apply Ne.symm; assumption) | decide | omega)])) (by exact Nat.le_of_ble_eq_true rfl) rfl rfl (bz_nar (by omega)) (bz_fit (by omega)) rfl ?_
  refine P.vret (dq dtX3_copyFrom 25 rfl) rfl rfl rfl ?_
  exact h _ ⟨(by repeat (first | assumption | exact up_s | rw [up_n (by first | assumption | (apply Ne.symm; assumption) | decide | omega)])), hM1.fr (S := [q]) (by repeat (first | assumption | exact Fr.rf | refine Fr.up ?_ (by simp))) (by simp <;> omega) (by simp <;> omega) (by simp <;> omega)⟩ ((hF1.wide (by simp)).trans (Fr.wide (S := [q]) (by repeat (first | assumption | exact Fr.rf | refine Fr.up ?_ (by simp))) (by simp)))
/-- Past.remember -/
theorem ct_X4_remember {x : CM} {d N : Nat} {σ : PH} {Q : PQ} {q m a q2 : Nat} {nx ct : Int} {g : Int → Option Nat} {v w : MoV} (hq : σ q = pcO 4 [vR m, vI nx, vI ct]) (hm : σ m = pcR 3 8 g) (hn : 0 ≤ nx ∧ nx < 8) (hc : 0 ≤ ct ∧ ct ≤ 8) (hg : g nx = some a) (hT : Mo σ a v) (hM2 : Mo σ q2 w) (hqq : a + 3 < q2 ∨ q2 + 3 < a) (hqa : q < a ∨ a + 3 < q) (hwu : w.2.2.2.2.2 = 0 ∨ w.2.2.2.2.2 = 1) (hd : 3 ≤ d) (h : ∀ σ' : PH, Mo σ' a w → σ' q = pcO 4 [vR m, vI (if nx = 7 then 0 else nx + 1), vI (if 8 ≤ ct then 8 else ct + 1)] → Fr σ σ' [q, a, a + 1, a + 2, a + 3] → Q none σ') : Call x d 0 0 mX4_remember [vR q, vR q2] N σ Q := by
  refine Call.of mcX4_remember (Nat.le_of_ble_eq_true rfl) (fun y hy => ?_)
  subst hy
  have hTa := hT.1
  refine P.aload_n (dq dtX4_remember 0 rfl) rfl ?_
  refine P.get flX4_11 (dq dtX4_remember 1 rfl) (by repeat (first | assumption | exact up_s | rw [up_n (by first | assumption | (apply Ne.symm; assumption) | decide | omega)])) (by rfl) ?_
  refine P.aload_n (dq dtX4_remember 2 rfl) rfl ?_
  refine P.get flX4_17 (dq dtX4_remember 3 rfl) (by repeat (first | assumption | exact up_s | rw [up_n (by first | assumption | (apply Ne.symm; assumption) | decide | omega)])) (by rfl) ?_
  refine P.aald (dq dtX4_remember 4 rfl) (by repeat (first | assumption | exact up_s | rw [up_n (by first | assumption | (apply Ne.symm; assumption) | decide | omega)])) (by decide) (by omega) (by omega) (by omega) hg ?_
  refine P.aload_n (dq dtX4_remember 5 rfl) rfl ?_
  refine P.callV1 (M' := mX3_copyFrom) (d' := d - 1) mlX4_25 mcX3_copyFrom mvX3_copyFrom (dq dtX4_remember 6 rfl) (by omega) (Nat.le_of_ble_eq_true rfl) (by repeat (first | assumption | exact up_s | rw [up_n (by first | assumption | (apply Ne.symm; assumption) | decide | omega)])) rfl ?_
  refine ct_X3_copyFrom hT hM2 (by omega) (by omega) (by omega) (fun σ1 hM1 hF1 => ?_)
  have hqA : σ1 q = pcO 4 [vR m, vI nx, vI ct] := (hF1 q (by simp <;> omega)).trans hq
  have e1 : (nx + 1).tmod 8 = if nx = 7 then 0 else nx + 1 := by { rw [Int.tmod_eq_emod_of_nonneg (by omega)]; split <;> omega }
  refine P.aload_n (dq dtX4_remember 7 rfl) rfl ?_
  refine P.aload_n (dq dtX4_remember 8 rfl) rfl ?_
  refine P.get flX4_17 (dq dtX4_remember 9 rfl) (by repeat (first | assumption | exact up_s | rw [up_n (by first | assumption | (apply Ne.symm; assumption) | decide | omega)])) (by rfl) ?_
  refine P.iconst (dq dtX4_remember 10 rfl) ?_
  refine P.iadd (dq dtX4_remember 11 rfl) ?_
  refine P.bipush (dq dtX4_remember 12 rfl) rfl ?_
  refine P.irem (dq dtX4_remember 13 rfl) (by omega) (by omega) (by omega) ?_
  rw [e1]
  refine P.put flX4_17 rfl (dq dtX4_remember 14 rfl) (by repeat (first | assumption | exact up_s | rw [up_n (by first | assumption | (apply Ne.symm; assumption) | decide | omega)])) (by exact Nat.le_of_ble_eq_true rfl) rfl rfl rfl rfl rfl ?_
  refine P.aload_n (dq dtX4_remember 15 rfl) rfl ?_
  refine P.aload_n (dq dtX4_remember 16 rfl) rfl ?_
  refine P.get flX4_21 (dq dtX4_remember 17 rfl) (by repeat (first | assumption | exact up_s | rw [up_n (by first | assumption | (apply Ne.symm; assumption) | decide | omega)])) (by rfl) ?_
  refine P.iconst (dq dtX4_remember 18 rfl) ?_
  refine P.iadd (dq dtX4_remember 19 rfl) ?_
  refine P.bipush (dq dtX4_remember 20 rfl) rfl ?_
  refine P.callS2 (M' := mJ9_min_7cf53) (d' := d - 1) mlX4_29 mcJ9_min_7cf53 msJ9_min_7cf53 (dq dtX4_remember 21 rfl) (by omega) (Nat.le_of_ble_eq_true rfl) ?_
  refine ct_min (by omega) (by omega) (fun n_35 => ?_) (fun n_35 => ?_)
  · refine P.put flX4_21 rfl (dq dtX4_remember 22 rfl) (by repeat (first | assumption | exact up_s | rw [up_n (by first | assumption | (apply Ne.symm; assumption) | decide | omega)])) (by exact Nat.le_of_ble_eq_true rfl) rfl rfl rfl rfl rfl ?_
    refine P.vret (dq dtX4_remember 23 rfl) rfl rfl rfl ?_
    first | (rw [if_neg (show ¬ 8 ≤ ct by omega)] at h; exact h _ (hM1.fr (S := [q]) (by repeat (first | assumption | exact Fr.rf | refine Fr.up ?_ (by simp))) (by simp <;> omega) (by simp <;> omega) (by simp <;> omega) (by simp <;> omega)) (by repeat (first | assumption | exact up_s | rw [up_n (by first | assumption | (apply Ne.symm; assumption) | decide | omega)])) ((hF1.wide (by simp)).trans (Fr.wide (S := [q]) (by repeat (first | assumption | exact Fr.rf | refine Fr.up ?_ (by simp))) (by simp)))) | (rw [if_pos (show 8 ≤ ct by omega)] at h; exact h _ (hM1.fr (S := [q]) (by repeat (first | assumption | exact Fr.rf | refine Fr.up ?_ (by simp))) (by simp <;> omega) (by simp <;> omega) (by simp <;> omega) (by simp <;> omega)) (by repeat (first | assumption | exact up_s | rw [up_n (by first | assumption | (apply Ne.symm; assumption) | decide | omega)])) ((hF1.wide (by simp)).trans (Fr.wide (S := [q]) (by repeat (first | assumption | exact Fr.rf | refine Fr.up ?_ (by simp))) (by simp))))
  · refine P.put flX4_21 rfl (dq dtX4_remember 22 rfl) (by repeat (first | assumption | exact up_s | rw [up_n (by first | assumption | (apply Ne.symm; assumption) | decide | omega)])) (by exact Nat.le_of_ble_eq_true rfl) rfl rfl rfl rfl rfl ?_
    refine P.vret (dq dtX4_remember 23 rfl) rfl rfl rfl ?_
    first | (rw [if_neg (show ¬ 8 ≤ ct by omega)] at h; exact h _ (hM1.fr (S := [q]) (by repeat (first | assumption | exact Fr.rf | refine Fr.up ?_ (by simp))) (by simp <;> omega) (by simp <;> omega) (by simp <;> omega) (by simp <;> omega)) (by repeat (first | assumption | exact up_s | rw [up_n (by first | assumption | (apply Ne.symm; assumption) | decide | omega)])) ((hF1.wide (by simp)).trans (Fr.wide (S := [q]) (by repeat (first | assumption | exact Fr.rf | refine Fr.up ?_ (by simp))) (by simp)))) | (rw [if_pos (show 8 ≤ ct by omega)] at h; exact h _ (hM1.fr (S := [q]) (by repeat (first | assumption | exact Fr.rf | refine Fr.up ?_ (by simp))) (by simp <;> omega) (by simp <;> omega) (by simp <;> omega) (by simp <;> omega)) (by repeat (first | assumption | exact up_s | rw [up_n (by first | assumption | (apply Ne.symm; assumption) | decide | omega)])) ((hF1.wide (by simp)).trans (Fr.wide (S := [q]) (by repeat (first | assumption | exact Fr.rf | refine Fr.up ?_ (by simp))) (by simp))))
/-- Past.recallInto -/
theorem ct_X4_recallInto {x : CM} {d N : Nat} {σ : PH} {Q : PQ} {q m a q2 : Nat} {nx ct : Int} {g : Int → Option Nat} {v w : MoV} (hq : σ q = pcO 4 [vR m, vI nx, vI ct]) (hm : σ m = pcR 3 8 g) (hn : 0 ≤ nx ∧ nx < 8) (hc : 0 ≤ ct ∧ ct ≤ 8) (h0 : 0 < ct) (hg : g (if nx = 0 then 7 else nx - 1) = some q2) (hT : Mo σ a v) (hM2 : Mo σ q2 w) (hqq : a + 3 < q2 ∨ q2 + 3 < a) (hqa : q < a ∨ a + 3 < q) (hqb : q < q2 ∨ q2 + 3 < q) (hwu : w.2.2.2.2.2 = 0 ∨ w.2.2.2.2.2 = 1) (hd : 3 ≤ d) (h : ∀ σ' : PH, Mo σ' a w → σ' q = pcO 4 [vR m, vI (if nx = 0 then 7 else nx - 1), vI (ct - 1)] → Fr σ σ' [q, a, a + 1, a + 2, a + 3] → Q none σ') : Call x d 0 0 mX4_recallInto [vR q, vR a] N σ Q := by
  refine Call.of mcX4_recallInto (Nat.le_of_ble_eq_true rfl) (fun y hy => ?_)
  subst hy
  have hTa := hT.1
  have hne : q ≠ m := ne_oR hq hm
  have hbn : 0 ≤ (if nx = 0 then 7 else nx - 1) ∧ (if nx = 0 then 7 else nx - 1) < 8 := by { split <;> omega }
  have e1 : (nx + 8 - 1).tmod 8 = if nx = 0 then 7 else nx - 1 := by { rw [Int.tmod_eq_emod_of_nonneg (by omega)]; split <;> omega }
  refine P.aload_n (dq dtX4_recallInto 0 rfl) rfl ?_
  refine P.get flX4_21 (dq dtX4_recallInto 1 rfl) (by repeat (first | assumption | exact up_s | rw [up_n (by first | assumption | (apply Ne.symm; assumption) | decide | omega)])) (by rfl) ?_
  refine P.if_ne (t := 8) (dq dtX4_recallInto 2 rfl) rfl (by omega) (fun c_4 => ?_) (fun c_4 => ?_)
  · refine P.aload_n (dq dtX4_recallInto 4 rfl) rfl ?_
    refine P.aload_n (dq dtX4_recallInto 5 rfl) rfl ?_
    refine P.get flX4_17 (dq dtX4_recallInto 6 rfl) (by repeat (first | assumption | exact up_s | rw [up_n (by first | assumption | (apply Ne.symm; assumption) | decide | omega)])) (by rfl) ?_
    refine P.bipush (dq dtX4_recallInto 7 rfl) rfl ?_
    refine P.iadd (dq dtX4_recallInto 8 rfl) ?_
    refine P.iconst (dq dtX4_recallInto 9 rfl) ?_
    refine P.isub (dq dtX4_recallInto 10 rfl) ?_
    refine P.bipush (dq dtX4_recallInto 11 rfl) rfl ?_
    refine P.irem (dq dtX4_recallInto 12 rfl) (by omega) (by omega) (by omega) ?_
    rw [e1]
    generalize (if nx = 0 then 7 else nx - 1) = y9 at *
    refine P.put flX4_17 rfl (dq dtX4_recallInto 13 rfl) (by repeat (first | assumption | exact up_s | rw [up_n (by first | assumption | (apply Ne.symm; assumption) | decide | omega)])) (by exact Nat.le_of_ble_eq_true rfl) rfl rfl rfl rfl rfl ?_
    refine P.aload_n (dq dtX4_recallInto 14 rfl) rfl ?_
    refine P.dup (dq dtX4_recallInto 15 rfl) rfl ?_
    refine P.get flX4_21 (dq dtX4_recallInto 16 rfl) (by repeat (first | assumption | exact up_s | rw [up_n (by first | assumption | (apply Ne.symm; assumption) | decide | omega)])) (by rfl) ?_
    refine P.iconst (dq dtX4_recallInto 17 rfl) ?_
    refine P.isub (dq dtX4_recallInto 18 rfl) ?_
    refine P.put flX4_21 rfl (dq dtX4_recallInto 19 rfl) (by repeat (first | assumption | exact up_s | rw [up_n (by first | assumption | (apply Ne.symm; assumption) | decide | omega)])) (by exact Nat.le_of_ble_eq_true rfl) rfl rfl rfl rfl rfl ?_
    refine P.aload_n (dq dtX4_recallInto 20 rfl) rfl ?_
    refine P.aload_n (dq dtX4_recallInto 21 rfl) rfl ?_
    refine P.get flX4_11 (dq dtX4_recallInto 22 rfl) (by repeat (first | assumption | exact up_s | rw [up_n (by first | assumption | (apply Ne.symm; assumption) | decide | omega)])) (by rfl) ?_
    refine P.aload_n (dq dtX4_recallInto 23 rfl) rfl ?_
    refine P.get flX4_17 (dq dtX4_recallInto 24 rfl) (by repeat (first | assumption | exact up_s | rw [up_n (by first | assumption | (apply Ne.symm; assumption) | decide | omega)])) (by rfl) ?_
    refine P.aald (dq dtX4_recallInto 25 rfl) (by repeat (first | assumption | exact up_s | rw [up_n (by first | assumption | (apply Ne.symm; assumption) | decide | omega)])) (by decide) (by omega) (by omega) (by omega) hg ?_
    refine P.callV1 (M' := mX3_copyFrom) (d' := d - 1) mlX4_25 mcX3_copyFrom mvX3_copyFrom (dq dtX4_recallInto 26 rfl) (by omega) (Nat.le_of_ble_eq_true rfl) (by repeat (first | assumption | exact up_s | rw [up_n (by first | assumption | (apply Ne.symm; assumption) | decide | omega)])) rfl ?_
    refine ct_X3_copyFrom (hT.fr (S := [q]) (by repeat (first | assumption | exact Fr.rf | refine Fr.up ?_ (by simp))) (by simp <;> omega) (by simp <;> omega) (by simp <;> omega) (by simp <;> omega)) (hM2.fr (S := [q]) (by repeat (first | assumption | exact Fr.rf | refine Fr.up ?_ (by simp))) (by simp <;> omega) (by simp <;> omega) (by simp <;> omega) (by simp <;> omega)) (by omega) (by omega) (by omega) (fun σ1 hM1 hF1 => ?_)
    refine P.vret (dq dtX4_recallInto 27 rfl) rfl rfl rfl ?_
    exact h _ hM1 ((hF1 q (by simp <;> omega)).trans (by repeat (first | assumption | exact up_s | rw [up_n (by first | assumption | (apply Ne.symm; assumption) | decide | omega)]))) ((Fr.wide (S := [q]) (by repeat (first | assumption | exact Fr.rf | refine Fr.up ?_ (by simp))) (by simp)).trans (hF1.wide (by simp)))
  · refine P.vret (dq dtX4_recallInto 3 rfl) rfl rfl rfl ?_
    exfalso; omega
/-- Past.forgetAll -/
theorem ct_X4_forgetAll {x : CM} {d N : Nat} {σ : PH} {Q : PQ} {q m : Nat} {nx ct : Int} (hq : σ q = pcO 4 [vR m, vI nx, vI ct]) (h : Q none (up σ q (pcO 4 [vR m, vI nx, vI 0]))) : Call x d 0 0 mX4_forgetAll [vR q] N σ Q := by
  refine Call.of mcX4_forgetAll (Nat.le_of_ble_eq_true rfl) (fun y hy => ?_)
  subst hy
  refine P.aload_n (dq dtX4_forgetAll 0 rfl) rfl ?_
  refine P.iconst (dq dtX4_forgetAll 1 rfl) ?_
  refine P.put flX4_21 rfl (dq dtX4_forgetAll 2 rfl) (by repeat (first | assumption | exact up_s | rw [up_n (by first | assumption | (apply Ne.symm; assumption) | decide | omega)])) (by exact Nat.le_of_ble_eq_true rfl) rfl rfl rfl rfl rfl ?_
  refine P.vret (dq dtX4_forgetAll 3 rfl) rfl rfl rfl ?_
  exact h
end
section
/-! pools: the last one first, each its sum and how many it has -/
def mrgA (t s : Int) : List (Int × Int) → List (Int × Int)
  | [] => [(t, s)]
  | (t0, s0) :: r => if t * s0 ≤ t0 * s then mrgA (t0 + t) (s0 + s) r else (t, s) :: (t0, s0) :: r
def pool (w : Int → Int) : Nat → List (Int × Int)
  | 0 => []
  | k + 1 => mrgA (w k) 1 (pool w k)
def szs : List (Int × Int) → Int
  | [] => 0
  | (_, s) :: r => s + szs r
def Rl (to si : Int → Int) : List (Int × Int) → Prop
  | [] => True
  | (t, s) :: r => to r.length = t ∧ si r.length = s ∧ Rl to si r
def RF (fi : Int → Int) : List (Int × Int) → Prop
  | [] => True
  | (_, _) :: r => fi r.length = szs r ∧ RF fi r
def GB (B : Int) : List (Int × Int) → Prop
  | [] => True
  | (t, s) :: r => (1 ≤ s ∧ -(B * s) ≤ t ∧ t ≤ B * s) ∧ GB B r
theorem szs_app : ∀ (t s : Int) (l : List (Int × Int)), szs (mrgA t s l) = s + szs l := by
  intro t s l
  induction l generalizing t s with
  | nil => simp [mrgA, szs]
  | cons a r ih =>
    obtain ⟨t0, s0⟩ := a
    unfold mrgA
    split
    · rw [ih]; simp only [szs]; omega
    · simp only [szs]
theorem pool_szs (w : Int → Int) : ∀ k : Nat, szs (pool w k) = k := by
  intro k
  induction k with
  | zero => rfl
  | succ k ih =>
    show szs (mrgA (w k) 1 (pool w k)) = _
    rw [szs_app, ih]
    omega
theorem GB_mrg {B : Int} : ∀ (t s : Int) (l : List (Int × Int)), (1 ≤ s ∧ -(B * s) ≤ t ∧ t ≤ B * s) → GB B l → GB B (mrgA t s l) := by
  intro t s l
  induction l generalizing t s with
  | nil => intro h _; exact ⟨h, trivial⟩
  | cons a r ih =>
    obtain ⟨t0, s0⟩ := a
    intro h h2
    obtain ⟨h3, h4⟩ := h2
    unfold mrgA
    split
    · refine ih _ _ ?_ h4
      rw [Int.mul_add]
      omega
    · exact ⟨h, h3, h4⟩
theorem pool_GB {B : Int} {w : Int → Int} : ∀ k : Nat, (∀ i : Nat, i < k → -B ≤ w i ∧ w i ≤ B) → GB B (pool w k) := by
  intro k
  induction k with
  | zero => intro _; trivial
  | succ k ih =>
    intro h
    refine GB_mrg _ _ _ ?_ (ih (fun i hi => h i (by omega)))
    have := h k (by omega)
    rw [Int.mul_one]
    omega
theorem GB_len {B : Int} : ∀ l : List (Int × Int), GB B l → (l.length : Int) ≤ szs l := by
  intro l
  induction l with
  | nil => intro _; simp [szs]
  | cons a r ih =>
    obtain ⟨t, s⟩ := a
    intro h
    have := ih h.2
    have := h.1.1
    simp only [szs, List.length_cons]
    omega
theorem Rl_up {to si : Int → Int} {j v j' v' : Int} : ∀ l : List (Int × Int), Rl to si l → (l.length : Int) ≤ j → (l.length : Int) ≤ j' → Rl (upI to j v) (upI si j' v') l := by
  intro l
  induction l with
  | nil => intro _ _ _; trivial
  | cons a r ih =>
    obtain ⟨t, s⟩ := a
    intro h h1 h2
    simp only [List.length_cons] at h1 h2
    refine ⟨?_, ?_, ih h.2.2 (by omega) (by omega)⟩
    · rw [upI_n (by omega)]; exact h.1
    · rw [upI_n (by omega)]; exact h.2.1
theorem RF_up {fi : Int → Int} {j v : Int} : ∀ l : List (Int × Int), RF fi l → (l.length : Int) ≤ j → RF (upI fi j v) l := by
  intro l
  induction l with
  | nil => intro _ _; trivial
  | cons a r ih =>
    obtain ⟨t, s⟩ := a
    intro h h1
    simp only [List.length_cons] at h1
    refine ⟨?_, ih h.2 (by omega)⟩
    rw [upI_n (by omega)]; exact h.1
theorem Rl_c {to si to' si' : Int → Int} : ∀ l : List (Int × Int), Rl to si l → (∀ i : Int, 0 ≤ i → i < l.length → to' i = to i ∧ si' i = si i) → Rl to' si' l := by
  intro l
  induction l with
  | nil => intro _ _; trivial
  | cons a r ih =>
    obtain ⟨t, s⟩ := a
    intro h h1
    simp only [List.length_cons] at h1
    have := h1 r.length (by omega) (by omega)
    exact ⟨this.1.trans h.1, this.2.trans h.2.1, ih h.2.2 (fun i h5 h6 => h1 i h5 (by omega))⟩
/-- two pictures of one list are alike -/
theorem Rl_eq {to si to' si' : Int → Int} : ∀ l : List (Int × Int), Rl to si l → Rl to' si' l → ∀ i : Int, 0 ≤ i → i < l.length → to i = to' i ∧ si i = si' i := by
  intro l
  induction l with
  | nil => intro _ _ i h1 h2; simp at h2; omega
  | cons a r ih =>
    obtain ⟨t, s⟩ := a
    intro h h' i h1 h2
    simp only [List.length_cons] at h2
    by_cases e : i = r.length
    · subst e
      exact ⟨h.1.trans h'.1.symm, h.2.1.trans h'.2.1.symm⟩
    · exact ih h.2.2 h'.2.2 i h1 (by omega)
theorem Rl_GB {to si : Int → Int} {B : Int} : ∀ l : List (Int × Int), Rl to si l → GB B l → ∀ i : Int, 0 ≤ i → i < l.length → 1 ≤ si i ∧ -(B * si i) ≤ to i ∧ to i ≤ B * si i := by
  intro l
  induction l with
  | nil => intro _ _ i h1 h2; simp at h2; omega
  | cons a r ih =>
    obtain ⟨t, s⟩ := a
    intro h hg i h1 h2
    simp only [List.length_cons] at h2
    by_cases e : i = r.length
    · subst e
      rw [h.1, h.2.1]
      exact hg.1
    · exact ih h.2.2 hg.2 i h1 (by omega)
theorem Rl_sum {to si : Int → Int} : ∀ l : List (Int × Int), Rl to si l → szs l = sumF si 0 l.length := by
  intro l
  induction l with
  | nil => intro _; rfl
  | cons a r ih =>
    obtain ⟨t, s⟩ := a
    intro h
    show s + szs r = sumF si 0 r.length + si (0 + r.length)
    rw [Int.zero_add, h.2.1, ih h.2.2]
    omega
theorem RF_sum {to si fi : Int → Int} : ∀ l : List (Int × Int), Rl to si l → RF fi l → ∀ j : Nat, j < l.length → fi j = sumF si 0 j := by
  intro l
  induction l with
  | nil => intro _ _ j hj; simp at hj
  | cons a r ih =>
    obtain ⟨t, s⟩ := a
    intro h hf j hj
    simp only [List.length_cons] at hj
    by_cases e : j = r.length
    · subst e
      rw [hf.1, Rl_sum r h.2.2]
    · exact ih h.2.2 hf.2 j (by omega)
theorem sumF_mono {si : Int → Int} {m : Nat} (h : ∀ i : Int, 0 ≤ i → i < m → 1 ≤ si i) : ∀ j k : Nat, j ≤ k → k ≤ m → sumF si 0 j + (k - j : Int) ≤ sumF si 0 k := by
  intro j k hjk
  induction k with
  | zero => intro _; obtain rfl : j = 0 := by omega
            simp
  | succ k ih =>
    intro hk
    by_cases e : j = k + 1
    · subst e; simp
    · have h1 := ih (by omega) (by omega)
      have h2 := h (0 + k) (by omega) (by omega)
      show sumF si 0 j + (((k + 1 : Nat) : Int) - j) ≤ sumF si 0 k + si (0 + k)
      omega
/-- the pool of a place -/
def PO (pf si : Int → Int) (m : Nat) : Prop := ∀ (j : Nat) (k : Int), j < m → 0 ≤ k → k < si j → pf (sumF si 0 j + k) = j
/-- every place stands in a pool -/
theorem in_pool {si : Int → Int} : ∀ (m : Nat), (∀ i : Int, 0 ≤ i → i < m → 1 ≤ si i) → ∀ p : Int, 0 ≤ p → p < sumF si 0 m → ∃ j : Nat, j < m ∧ sumF si 0 j ≤ p ∧ p < sumF si 0 j + si j := by
  intro m
  induction m with
  | zero => intro _ p h1 h2; simp [sumF] at h2; omega
  | succ m ih =>
    intro h p h1 h2
    by_cases e : p < sumF si 0 m
    · obtain ⟨j, q1, q2, q3⟩ := ih (fun i g1 g2 => h i g1 (by omega)) p h1 e
      exact ⟨j, by omega, q2, q3⟩
    · refine ⟨m, by omega, by omega, ?_⟩
      have : sumF si 0 (m + 1) = sumF si 0 m + si (0 + m) := rfl
      rw [Int.zero_add] at this
      omega
theorem PO_at {pf si : Int → Int} {m : Nat} (h : PO pf si m) {p : Int} {j : Nat} (hj : j < m) (h1 : sumF si 0 j ≤ p) (h2 : p < sumF si 0 j + si j) : pf p = j := by
  have := h j (p - sumF si 0 j) hj (by omega) (by omega)
  rwa [show sumF si 0 j + (p - sumF si 0 j) = p by omega] at this
end
section
/-- Figures: the object at q, its rows behind it -/
abbrev fgO (q : Nat) (p s po pt pl : Int) : PC := pcO 0 [vI p, vI s, vR (q + 1), vR (q + 2), vI po, vR (q + 3), vR (q + 4), vR (q + 5), vR (q + 6), vR (q + 7), vI pt, vI pl]
/-- Figures.hasPoint -/
theorem ct_X0_hasPoint {x : CM} {d N : Nat} {σ : PH} {Q : PQ} {q : Nat} {p s po pt pl : Int} (hq : σ q = fgO q p s po pt pl) (hp : 0 ≤ p ∧ p ≤ 8) {k : Int} (hk : inR k) (ht : 0 ≤ k ∧ k < p → Q (some (vI 1)) σ) (hf : ¬ (0 ≤ k ∧ k < p) → Q (some (vI 0)) σ) : Call x d 0 0 mX0_hasPoint [vR q, vI k] N σ Q := by
  refine Call.of mcX0_hasPoint (Nat.le_of_ble_eq_true rfl) (fun y hy => ?_)
  subst hy
  refine P.iload_n (dq dtX0_hasPoint 0 rfl) rfl ?_
  refine P.if_lt (t := 16) (dq dtX0_hasPoint 1 rfl) rfl (by omega) (fun c_1 => ?_) (fun c_1 => ?_)
  · refine P.iconst (dq dtX0_hasPoint 8 rfl) ?_
    refine P.zret (dq dtX0_hasPoint 9 rfl) rfl rfl (by decide) rfl ?_
    first | exact ht (by omega) | exact hf (by omega)
  · refine P.iload_n (dq dtX0_hasPoint 2 rfl) rfl ?_
    refine P.aload_n (dq dtX0_hasPoint 3 rfl) rfl ?_
    refine P.get flX0_9 (dq dtX0_hasPoint 4 rfl) (by repeat (first | assumption | exact up_s | rw [up_n (by first | assumption | (apply Ne.symm; assumption) | decide | omega)])) (by rfl) ?_
    refine P.icmp_ge (t := 16) (dq dtX0_hasPoint 5 rfl) rfl (by omega) (by omega) (fun c_9 => ?_) (fun c_9 => ?_)
    · refine P.iconst (dq dtX0_hasPoint 8 rfl) ?_
      refine P.zret (dq dtX0_hasPoint 9 rfl) rfl rfl (by decide) rfl ?_
      first | exact ht (by omega) | exact hf (by omega)
    · refine P.iconst (dq dtX0_hasPoint 6 rfl) ?_
      refine P.goto (t := 17) (dq dtX0_hasPoint 7 rfl) rfl ?_
      refine P.zret (dq dtX0_hasPoint 9 rfl) rfl rfl (by decide) rfl ?_
      first | exact ht (by omega) | exact hf (by omega)
/-- Figures.hasPlace -/
theorem ct_X0_hasPlace {x : CM} {d N : Nat} {σ : PH} {Q : PQ} {q : Nat} {p s po pt pl : Int} (hq : σ q = fgO q p s po pt pl) (hp : 0 ≤ p ∧ p ≤ 8) (hL : 0 ≤ (p - 1) * s ∧ (p - 1) * s ≤ 1000) {k : Int} (hk : inR k) (ht : 0 ≤ k ∧ k ≤ (p - 1) * s → Q (some (vI 1)) σ) (hf : ¬ (0 ≤ k ∧ k ≤ (p - 1) * s) → Q (some (vI 0)) σ) : Call x d 0 0 mX0_hasPlace [vR q, vI k] N σ Q := by
  refine Call.of mcX0_hasPlace (Nat.le_of_ble_eq_true rfl) (fun y hy => ?_)
  subst hy
  refine P.iload_n (dq dtX0_hasPlace 0 rfl) rfl ?_
  refine P.if_lt (t := 23) (dq dtX0_hasPlace 1 rfl) rfl (by omega) (fun c_1 => ?_) (fun c_1 => ?_)
  · refine P.iconst (dq dtX0_hasPlace 13 rfl) ?_
    refine P.zret (dq dtX0_hasPlace 14 rfl) rfl rfl (by decide) rfl ?_
    first | exact ht (by omega) | exact hf (by omega)
  · refine P.iload_n (dq dtX0_hasPlace 2 rfl) rfl ?_
    refine P.aload_n (dq dtX0_hasPlace 3 rfl) rfl ?_
    refine P.get flX0_9 (dq dtX0_hasPlace 4 rfl) (by repeat (first | assumption | exact up_s | rw [up_n (by first | assumption | (apply Ne.symm; assumption) | decide | omega)])) (by rfl) ?_
    refine P.iconst (dq dtX0_hasPlace 5 rfl) ?_
    refine P.isub (dq dtX0_hasPlace 6 rfl) ?_
    refine P.aload_n (dq dtX0_hasPlace 7 rfl) rfl ?_
    refine P.get flX0_15 (dq dtX0_hasPlace 8 rfl) (by repeat (first | assumption | exact up_s | rw [up_n (by first | assumption | (apply Ne.symm; assumption) | decide | omega)])) (by rfl) ?_
    refine P.imul (dq dtX0_hasPlace 9 rfl) ?_
    refine P.icmp_gt (t := 23) (dq dtX0_hasPlace 10 rfl) rfl (by omega) (by omega) (fun c_16 => ?_) (fun c_16 => ?_)
    · refine P.iconst (dq dtX0_hasPlace 13 rfl) ?_
      refine P.zret (dq dtX0_hasPlace 14 rfl) rfl rfl (by decide) rfl ?_
      first | exact ht (by omega) | exact hf (by omega)
    · refine P.iconst (dq dtX0_hasPlace 11 rfl) ?_
      refine P.goto (t := 24) (dq dtX0_hasPlace 12 rfl) rfl ?_
      refine P.zret (dq dtX0_hasPlace 14 rfl) rfl rfl (by decide) rfl ?_
      first | exact ht (by omega) | exact hf (by omega)
/-- Figures.meanAt -/
theorem ct_X0_meanAt {x : CM} {d N : Nat} {σ : PH} {Q : PQ} {q : Nat} {p s po pt pl : Int} (hq : σ q = fgO q p s po pt pl) (hp : 0 ≤ p ∧ p ≤ 8) (hd : 1 ≤ d) {me : Int → Int} (hm : σ (q + 1) = pcI 0 16 me) {k w : Int} (hk : 0 ≤ k ∧ k < p) (hw : w = 0 ∨ w = 1) (h : Q (some (vI (me (k * 2 + w)))) σ) : Call x d 0 0 mX0_meanAt [vR q, vI k, vI w] N σ Q := by
  refine Call.of mcX0_meanAt (Nat.le_of_ble_eq_true rfl) (fun y hy => ?_)
  subst hy
  refine P.aload_n (dq dtX0_meanAt 0 rfl) rfl ?_
  refine P.iload_n (dq dtX0_meanAt 1 rfl) rfl ?_
  refine P.callV1 (M' := mX0_hasPoint) (d' := d - 1) mlX0_98 mcX0_hasPoint mvX0_hasPoint (dq dtX0_meanAt 2 rfl) (by omega) (Nat.le_of_ble_eq_true rfl) (by repeat (first | assumption | exact up_s | rw [up_n (by first | assumption | (apply Ne.symm; assumption) | decide | omega)])) rfl ?_
  refine ct_X0_hasPoint (by repeat (first | assumption | exact up_s | rw [up_n (by first | assumption | (apply Ne.symm; assumption) | decide | omega)])) (by omega) (by omega) (fun n_2 => ?_) (fun n_2 => absurd (by omega) n_2)
  refine P.if_eq (t := 28) (dq dtX0_meanAt 3 rfl) rfl (by omega) (fun h9 => absurd h9 (by decide)) (fun _ => ?_)
  refine P.iload_n (dq dtX0_meanAt 4 rfl) rfl ?_
  refine P.callSN1 (M' := mX6_isWay) (d' := d - 1) nlX0_102 mcX6_isWay msX6_isWay (dq dtX0_meanAt 5 rfl) (by omega) (Nat.le_of_ble_eq_true rfl) ?_
  refine ct_X6_isWay (by omega) (fun n_9 => ?_) (fun n_9 => absurd (by omega) n_9)
  refine P.if_eq (t := 28) (dq dtX0_meanAt 6 rfl) rfl (by omega) (fun h9 => absurd h9 (by decide)) (fun _ => ?_)
  refine P.aload_n (dq dtX0_meanAt 7 rfl) rfl ?_
  refine P.get flX0_18 (dq dtX0_meanAt 8 rfl) (by repeat (first | assumption | exact up_s | rw [up_n (by first | assumption | (apply Ne.symm; assumption) | decide | omega)])) (by rfl) ?_
  refine P.iload_n (dq dtX0_meanAt 9 rfl) rfl ?_
  refine P.iconst (dq dtX0_meanAt 10 rfl) ?_
  refine P.imul (dq dtX0_meanAt 11 rfl) ?_
  refine P.iload_n (dq dtX0_meanAt 12 rfl) rfl ?_
  refine P.iadd (dq dtX0_meanAt 13 rfl) ?_
  refine P.iald (dq dtX0_meanAt 14 rfl) (by repeat (first | assumption | exact up_s | rw [up_n (by first | assumption | (apply Ne.symm; assumption) | decide | omega)])) (by omega) (by omega) (by omega) ?_
  refine P.goto (t := 29) (dq dtX0_meanAt 15 rfl) rfl ?_
  refine P.iret (dq dtX0_meanAt 17 rfl) rfl rfl rfl ?_
  exact h
/-- Figures.slopeAt -/
theorem ct_X0_slopeAt {x : CM} {d N : Nat} {σ : PH} {Q : PQ} {q : Nat} {p s po pt pl : Int} (hq : σ q = fgO q p s po pt pl) (hp : 0 ≤ p ∧ p ≤ 8) (hd : 2 ≤ d) {me : Int → Int} (hm : σ (q + 1) = pcI 0 16 me) {k : Int} (hk : 0 ≤ k ∧ k < p) (h : Q (some (vI (me (k * 2 + 0) + me (k * 2 + 1)))) σ) : Call x d 0 0 mX0_slopeAt [vR q, vI k] N σ Q := by
  refine Call.of mcX0_slopeAt (Nat.le_of_ble_eq_true rfl) (fun y hy => ?_)
  subst hy
  refine P.aload_n (dq dtX0_slopeAt 0 rfl) rfl ?_
  refine P.iload_n (dq dtX0_slopeAt 1 rfl) rfl ?_
  refine P.iconst (dq dtX0_slopeAt 2 rfl) ?_
  refine P.callV2 (M' := mX0_meanAt) (d' := d - 1) mlX0_82 mcX0_meanAt mvX0_meanAt (dq dtX0_slopeAt 3 rfl) (by omega) (Nat.le_of_ble_eq_true rfl) (by repeat (first | assumption | exact up_s | rw [up_n (by first | assumption | (apply Ne.symm; assumption) | decide | omega)])) rfl ?_
  refine ct_X0_meanAt (by repeat (first | assumption | exact up_s | rw [up_n (by first | assumption | (apply Ne.symm; assumption) | decide | omega)])) (by omega) (by omega) (by repeat (first | assumption | exact up_s | rw [up_n (by first | assumption | (apply Ne.symm; assumption) | decide | omega)])) (by omega) (by omega) ?_
  refine P.aload_n (dq dtX0_slopeAt 4 rfl) rfl ?_
  refine P.iload_n (dq dtX0_slopeAt 5 rfl) rfl ?_
  refine P.iconst (dq dtX0_slopeAt 6 rfl) ?_
  refine P.callV2 (M' := mX0_meanAt) (d' := d - 1) mlX0_82 mcX0_meanAt mvX0_meanAt (dq dtX0_slopeAt 7 rfl) (by omega) (Nat.le_of_ble_eq_true rfl) (by repeat (first | assumption | exact up_s | rw [up_n (by first | assumption | (apply Ne.symm; assumption) | decide | omega)])) rfl ?_
  refine ct_X0_meanAt (by repeat (first | assumption | exact up_s | rw [up_n (by first | assumption | (apply Ne.symm; assumption) | decide | omega)])) (by omega) (by omega) (by repeat (first | assumption | exact up_s | rw [up_n (by first | assumption | (apply Ne.symm; assumption) | decide | omega)])) (by omega) (by omega) ?_
  refine P.iadd (dq dtX0_slopeAt 8 rfl) ?_
  refine P.iret (dq dtX0_slopeAt 9 rfl) rfl rfl rfl ?_
  exact h
/-- Figures.wantedAt -/
theorem ct_X0_wantedAt {x : CM} {d N : Nat} {σ : PH} {Q : PQ} {q : Nat} {p s po pt pl : Int} (hq : σ q = fgO q p s po pt pl) (hp : 0 ≤ p ∧ p ≤ 8) (hd : 1 ≤ d) {wa : Int → Int} (hm : σ (q + 2) = pcI 0 8 wa) {k : Int} (hk : 0 ≤ k ∧ k < p) (h : Q (some (vI (wa k))) σ) : Call x d 0 0 mX0_wantedAt [vR q, vI k] N σ Q := by
  refine Call.of mcX0_wantedAt (Nat.le_of_ble_eq_true rfl) (fun y hy => ?_)
  subst hy
  refine P.aload_n (dq dtX0_wantedAt 0 rfl) rfl ?_
  refine P.iload_n (dq dtX0_wantedAt 1 rfl) rfl ?_
  refine P.callV1 (M' := mX0_hasPoint) (d' := d - 1) mlX0_98 mcX0_hasPoint mvX0_hasPoint (dq dtX0_wantedAt 2 rfl) (by omega) (Nat.le_of_ble_eq_true rfl) (by repeat (first | assumption | exact up_s | rw [up_n (by first | assumption | (apply Ne.symm; assumption) | decide | omega)])) rfl ?_
  refine ct_X0_hasPoint (by repeat (first | assumption | exact up_s | rw [up_n (by first | assumption | (apply Ne.symm; assumption) | decide | omega)])) (by omega) (by omega) (fun n_2 => ?_) (fun n_2 => absurd (by omega) n_2)
  refine P.if_eq (t := 17) (dq dtX0_wantedAt 3 rfl) rfl (by omega) (fun h9 => absurd h9 (by decide)) (fun _ => ?_)
  refine P.aload_n (dq dtX0_wantedAt 4 rfl) rfl ?_
  refine P.get flX0_22 (dq dtX0_wantedAt 5 rfl) (by repeat (first | assumption | exact up_s | rw [up_n (by first | assumption | (apply Ne.symm; assumption) | decide | omega)])) (by rfl) ?_
  refine P.iload_n (dq dtX0_wantedAt 6 rfl) rfl ?_
  refine P.iald (dq dtX0_wantedAt 7 rfl) (by repeat (first | assumption | exact up_s | rw [up_n (by first | assumption | (apply Ne.symm; assumption) | decide | omega)])) (by omega) (by omega) (by omega) ?_
  refine P.goto (t := 18) (dq dtX0_wantedAt 8 rfl) rfl ?_
  refine P.iret (dq dtX0_wantedAt 10 rfl) rfl rfl rfl ?_
  exact h
/-- Figures.poolFirstAt -/
theorem ct_X0_poolFirstAt {x : CM} {d N : Nat} {σ : PH} {Q : PQ} {q : Nat} {p s po pt pl : Int} (hq : σ q = fgO q p s po pt pl) (hp : 0 ≤ p ∧ p ≤ 8) (hd : 1 ≤ d) {pf f : Int → Int} (hm : σ (q + 3) = pcI 0 8 f) (hm2 : σ (q + 6) = pcI 0 8 pf) {k : Int} (hk : 0 ≤ k ∧ k < p) (hb : 0 ≤ pf k ∧ pf k < 8) (h : Q (some (vI (f (pf k)))) σ) : Call x d 0 0 mX0_poolFirstAt [vR q, vI k] N σ Q := by
  refine Call.of mcX0_poolFirstAt (Nat.le_of_ble_eq_true rfl) (fun y hy => ?_)
  subst hy
  refine P.aload_n (dq dtX0_poolFirstAt 0 rfl) rfl ?_
  refine P.iload_n (dq dtX0_poolFirstAt 1 rfl) rfl ?_
  refine P.callV1 (M' := mX0_hasPoint) (d' := d - 1) mlX0_98 mcX0_hasPoint mvX0_hasPoint (dq dtX0_poolFirstAt 2 rfl) (by omega) (Nat.le_of_ble_eq_true rfl) (by repeat (first | assumption | exact up_s | rw [up_n (by first | assumption | (apply Ne.symm; assumption) | decide | omega)])) rfl ?_
  refine ct_X0_hasPoint (by repeat (first | assumption | exact up_s | rw [up_n (by first | assumption | (apply Ne.symm; assumption) | decide | omega)])) (by omega) (by omega) (fun n_2 => ?_) (fun n_2 => absurd (by omega) n_2)
  refine P.if_eq (t := 22) (dq dtX0_poolFirstAt 3 rfl) rfl (by omega) (fun h9 => absurd h9 (by decide)) (fun _ => ?_)
  refine P.aload_n (dq dtX0_poolFirstAt 4 rfl) rfl ?_
  refine P.get flX0_28 (dq dtX0_poolFirstAt 5 rfl) (by repeat (first | assumption | exact up_s | rw [up_n (by first | assumption | (apply Ne.symm; assumption) | decide | omega)])) (by rfl) ?_
  refine P.aload_n (dq dtX0_poolFirstAt 6 rfl) rfl ?_
  refine P.get flX0_37 (dq dtX0_poolFirstAt 7 rfl) (by repeat (first | assumption | exact up_s | rw [up_n (by first | assumption | (apply Ne.symm; assumption) | decide | omega)])) (by rfl) ?_
  refine P.iload_n (dq dtX0_poolFirstAt 8 rfl) rfl ?_
  refine P.iald (dq dtX0_poolFirstAt 9 rfl) (by repeat (first | assumption | exact up_s | rw [up_n (by first | assumption | (apply Ne.symm; assumption) | decide | omega)])) (by omega) (by omega) (by omega) ?_
  refine P.iald (dq dtX0_poolFirstAt 10 rfl) (by repeat (first | assumption | exact up_s | rw [up_n (by first | assumption | (apply Ne.symm; assumption) | decide | omega)])) (by omega) (by omega) (by omega) ?_
  refine P.goto (t := 23) (dq dtX0_poolFirstAt 11 rfl) rfl ?_
  refine P.iret (dq dtX0_poolFirstAt 13 rfl) rfl rfl rfl ?_
  exact h
/-- Figures.poolSizeAt -/
theorem ct_X0_poolSizeAt {x : CM} {d N : Nat} {σ : PH} {Q : PQ} {q : Nat} {p s po pt pl : Int} (hq : σ q = fgO q p s po pt pl) (hp : 0 ≤ p ∧ p ≤ 8) (hd : 1 ≤ d) {pf f : Int → Int} (hm : σ (q + 4) = pcI 0 8 f) (hm2 : σ (q + 6) = pcI 0 8 pf) {k : Int} (hk : 0 ≤ k ∧ k < p) (hb : 0 ≤ pf k ∧ pf k < 8) (h : Q (some (vI (f (pf k)))) σ) : Call x d 0 0 mX0_poolSizeAt [vR q, vI k] N σ Q := by
  refine Call.of mcX0_poolSizeAt (Nat.le_of_ble_eq_true rfl) (fun y hy => ?_)
  subst hy
  refine P.aload_n (dq dtX0_poolSizeAt 0 rfl) rfl ?_
  refine P.iload_n (dq dtX0_poolSizeAt 1 rfl) rfl ?_
  refine P.callV1 (M' := mX0_hasPoint) (d' := d - 1) mlX0_98 mcX0_hasPoint mvX0_hasPoint (dq dtX0_poolSizeAt 2 rfl) (by omega) (Nat.le_of_ble_eq_true rfl) (by repeat (first | assumption | exact up_s | rw [up_n (by first | assumption | (apply Ne.symm; assumption) | decide | omega)])) rfl ?_
  refine ct_X0_hasPoint (by repeat (first | assumption | exact up_s | rw [up_n (by first | assumption | (apply Ne.symm; assumption) | decide | omega)])) (by omega) (by omega) (fun n_2 => ?_) (fun n_2 => absurd (by omega) n_2)
  refine P.if_eq (t := 22) (dq dtX0_poolSizeAt 3 rfl) rfl (by omega) (fun h9 => absurd h9 (by decide)) (fun _ => ?_)
  refine P.aload_n (dq dtX0_poolSizeAt 4 rfl) rfl ?_
  refine P.get flX0_31 (dq dtX0_poolSizeAt 5 rfl) (by repeat (first | assumption | exact up_s | rw [up_n (by first | assumption | (apply Ne.symm; assumption) | decide | omega)])) (by rfl) ?_
  refine P.aload_n (dq dtX0_poolSizeAt 6 rfl) rfl ?_
  refine P.get flX0_37 (dq dtX0_poolSizeAt 7 rfl) (by repeat (first | assumption | exact up_s | rw [up_n (by first | assumption | (apply Ne.symm; assumption) | decide | omega)])) (by rfl) ?_
  refine P.iload_n (dq dtX0_poolSizeAt 8 rfl) rfl ?_
  refine P.iald (dq dtX0_poolSizeAt 9 rfl) (by repeat (first | assumption | exact up_s | rw [up_n (by first | assumption | (apply Ne.symm; assumption) | decide | omega)])) (by omega) (by omega) (by omega) ?_
  refine P.iald (dq dtX0_poolSizeAt 10 rfl) (by repeat (first | assumption | exact up_s | rw [up_n (by first | assumption | (apply Ne.symm; assumption) | decide | omega)])) (by omega) (by omega) (by omega) ?_
  refine P.goto (t := 23) (dq dtX0_poolSizeAt 11 rfl) rfl ?_
  refine P.iret (dq dtX0_poolSizeAt 13 rfl) rfl rfl rfl ?_
  exact h
/-- Figures.poolTotalAt -/
theorem ct_X0_poolTotalAt {x : CM} {d N : Nat} {σ : PH} {Q : PQ} {q : Nat} {p s po pt pl : Int} (hq : σ q = fgO q p s po pt pl) (hp : 0 ≤ p ∧ p ≤ 8) (hd : 1 ≤ d) {pf f : Int → Int} (hm : σ (q + 5) = pcI 0 8 f) (hm2 : σ (q + 6) = pcI 0 8 pf) {k : Int} (hk : 0 ≤ k ∧ k < p) (hb : 0 ≤ pf k ∧ pf k < 8) (h : Q (some (vI (f (pf k)))) σ) : Call x d 0 0 mX0_poolTotalAt [vR q, vI k] N σ Q := by
  refine Call.of mcX0_poolTotalAt (Nat.le_of_ble_eq_true rfl) (fun y hy => ?_)
  subst hy
  refine P.aload_n (dq dtX0_poolTotalAt 0 rfl) rfl ?_
  refine P.iload_n (dq dtX0_poolTotalAt 1 rfl) rfl ?_
  refine P.callV1 (M' := mX0_hasPoint) (d' := d - 1) mlX0_98 mcX0_hasPoint mvX0_hasPoint (dq dtX0_poolTotalAt 2 rfl) (by omega) (Nat.le_of_ble_eq_true rfl) (by repeat (first | assumption | exact up_s | rw [up_n (by first | assumption | (apply Ne.symm; assumption) | decide | omega)])) rfl ?_
  refine ct_X0_hasPoint (by repeat (first | assumption | exact up_s | rw [up_n (by first | assumption | (apply Ne.symm; assumption) | decide | omega)])) (by omega) (by omega) (fun n_2 => ?_) (fun n_2 => absurd (by omega) n_2)
  refine P.if_eq (t := 22) (dq dtX0_poolTotalAt 3 rfl) rfl (by omega) (fun h9 => absurd h9 (by decide)) (fun _ => ?_)
  refine P.aload_n (dq dtX0_poolTotalAt 4 rfl) rfl ?_
  refine P.get flX0_34 (dq dtX0_poolTotalAt 5 rfl) (by repeat (first | assumption | exact up_s | rw [up_n (by first | assumption | (apply Ne.symm; assumption) | decide | omega)])) (by rfl) ?_
  refine P.aload_n (dq dtX0_poolTotalAt 6 rfl) rfl ?_
  refine P.get flX0_37 (dq dtX0_poolTotalAt 7 rfl) (by repeat (first | assumption | exact up_s | rw [up_n (by first | assumption | (apply Ne.symm; assumption) | decide | omega)])) (by rfl) ?_
  refine P.iload_n (dq dtX0_poolTotalAt 8 rfl) rfl ?_
  refine P.iald (dq dtX0_poolTotalAt 9 rfl) (by repeat (first | assumption | exact up_s | rw [up_n (by first | assumption | (apply Ne.symm; assumption) | decide | omega)])) (by omega) (by omega) (by omega) ?_
  refine P.iald (dq dtX0_poolTotalAt 10 rfl) (by repeat (first | assumption | exact up_s | rw [up_n (by first | assumption | (apply Ne.symm; assumption) | decide | omega)])) (by omega) (by omega) (by omega) ?_
  refine P.goto (t := 23) (dq dtX0_poolTotalAt 11 rfl) rfl ?_
  refine P.iret (dq dtX0_poolTotalAt 13 rfl) rfl rfl rfl ?_
  exact h
/-- Figures.tableAt -/
theorem ct_X0_tableAt {x : CM} {d N : Nat} {σ : PH} {Q : PQ} {q : Nat} {p s po pt pl : Int} (hq : σ q = fgO q p s po pt pl) (hp : 0 ≤ p ∧ p ≤ 8) (hd : 1 ≤ d) {co : Int → Int} (hm : σ (q + 7) = pcI 0 8 co) {k : Int} (hk : 0 ≤ k ∧ k < p) (h : Q (some (vI (co k))) σ) : Call x d 0 0 mX0_tableAt [vR q, vI k] N σ Q := by
  refine Call.of mcX0_tableAt (Nat.le_of_ble_eq_true rfl) (fun y hy => ?_)
  subst hy
  refine P.aload_n (dq dtX0_tableAt 0 rfl) rfl ?_
  refine P.iload_n (dq dtX0_tableAt 1 rfl) rfl ?_
  refine P.callV1 (M' := mX0_hasPoint) (d' := d - 1) mlX0_98 mcX0_hasPoint mvX0_hasPoint (dq dtX0_tableAt 2 rfl) (by omega) (Nat.le_of_ble_eq_true rfl) (by repeat (first | assumption | exact up_s | rw [up_n (by first | assumption | (apply Ne.symm; assumption) | decide | omega)])) rfl ?_
  refine ct_X0_hasPoint (by repeat (first | assumption | exact up_s | rw [up_n (by first | assumption | (apply Ne.symm; assumption) | decide | omega)])) (by omega) (by omega) (fun n_2 => ?_) (fun n_2 => absurd (by omega) n_2)
  refine P.if_eq (t := 17) (dq dtX0_tableAt 3 rfl) rfl (by omega) (fun h9 => absurd h9 (by decide)) (fun _ => ?_)
  refine P.aload_n (dq dtX0_tableAt 4 rfl) rfl ?_
  refine P.get flX0_40 (dq dtX0_tableAt 5 rfl) (by repeat (first | assumption | exact up_s | rw [up_n (by first | assumption | (apply Ne.symm; assumption) | decide | omega)])) (by rfl) ?_
  refine P.iload_n (dq dtX0_tableAt 6 rfl) rfl ?_
  refine P.iald (dq dtX0_tableAt 7 rfl) (by repeat (first | assumption | exact up_s | rw [up_n (by first | assumption | (apply Ne.symm; assumption) | decide | omega)])) (by omega) (by omega) (by omega) ?_
  refine P.goto (t := 18) (dq dtX0_tableAt 8 rfl) rfl ?_
  refine P.iret (dq dtX0_tableAt 10 rfl) rfl rfl rfl ?_
  exact h
/-- Figures.offsetAt -/
theorem ct_X0_offsetAt {x : CM} {d N : Nat} {σ : PH} {Q : PQ} {q : Nat} {p s po pt pl : Int} (hq : σ q = fgO q p s po pt pl) (hp : 0 ≤ p ∧ p ≤ 8) (hd : 2 ≤ d) {co : Int → Int} (hm : σ (q + 7) = pcI 0 8 co) {k : Int} (hk : 0 ≤ k ∧ k < p) (h : Q (some (vI (co k - k * s))) σ) : Call x d 0 0 mX0_offsetAt [vR q, vI k] N σ Q := by
  refine Call.of mcX0_offsetAt (Nat.le_of_ble_eq_true rfl) (fun y hy => ?_)
  subst hy
  refine P.aload_n (dq dtX0_offsetAt 0 rfl) rfl ?_
  refine P.iload_n (dq dtX0_offsetAt 1 rfl) rfl ?_
  refine P.callV1 (M' := mX0_tableAt) (d' := d - 1) mlX0_105 mcX0_tableAt mvX0_tableAt (dq dtX0_offsetAt 2 rfl) (by omega) (Nat.le_of_ble_eq_true rfl) (by repeat (first | assumption | exact up_s | rw [up_n (by first | assumption | (apply Ne.symm; assumption) | decide | omega)])) rfl ?_
  refine ct_X0_tableAt (by repeat (first | assumption | exact up_s | rw [up_n (by first | assumption | (apply Ne.symm; assumption) | decide | omega)])) (by omega) (by omega) (by repeat (first | assumption | exact up_s | rw [up_n (by first | assumption | (apply Ne.symm; assumption) | decide | omega)])) (by omega) ?_
  refine P.iload_n (dq dtX0_offsetAt 3 rfl) rfl ?_
  refine P.aload_n (dq dtX0_offsetAt 4 rfl) rfl ?_
  refine P.get flX0_15 (dq dtX0_offsetAt 5 rfl) (by repeat (first | assumption | exact up_s | rw [up_n (by first | assumption | (apply Ne.symm; assumption) | decide | omega)])) (by rfl) ?_
  refine P.imul (dq dtX0_offsetAt 6 rfl) ?_
  refine P.isub (dq dtX0_offsetAt 7 rfl) ?_
  refine P.iret (dq dtX0_offsetAt 8 rfl) rfl rfl rfl ?_
  exact h
/-- Figures.missAt -/
theorem ct_X0_missAt {x : CM} {d N : Nat} {σ : PH} {Q : PQ} {q : Nat} {p s po pt pl : Int} (hq : σ q = fgO q p s po pt pl) (hp : 0 ≤ p ∧ p ≤ 8) (hd : 3 ≤ d) {me co : Int → Int} (hm1 : σ (q + 1) = pcI 0 16 me) (hm : σ (q + 7) = pcI 0 8 co) {k w : Int} (hk : 0 ≤ k ∧ k < p) (hw : w = 0 ∨ w = 1) (h : Q (some (vI (me (k * 2 + w) + 60 * (co k - k * s + if w = 1 then pl else 0)))) σ) : Call x d 0 0 mX0_missAt [vR q, vI k, vI w] N σ Q := by
  refine Call.of mcX0_missAt (Nat.le_of_ble_eq_true rfl) (fun y hy => ?_)
  subst hy
  refine P.aload_n (dq dtX0_missAt 0 rfl) rfl ?_
  refine P.iload_n (dq dtX0_missAt 1 rfl) rfl ?_
  refine P.callV1 (M' := mX0_offsetAt) (d' := d - 1) mlX0_108 mcX0_offsetAt mvX0_offsetAt (dq dtX0_missAt 2 rfl) (by omega) (Nat.le_of_ble_eq_true rfl) (by repeat (first | assumption | exact up_s | rw [up_n (by first | assumption | (apply Ne.symm; assumption) | decide | omega)])) rfl ?_
  refine ct_X0_offsetAt (by repeat (first | assumption | exact up_s | rw [up_n (by first | assumption | (apply Ne.symm; assumption) | decide | omega)])) (by omega) (by omega) (by repeat (first | assumption | exact up_s | rw [up_n (by first | assumption | (apply Ne.symm; assumption) | decide | omega)])) (by omega) ?_
  refine P.iload_n (dq dtX0_missAt 3 rfl) rfl ?_
  refine P.iconst (dq dtX0_missAt 4 rfl) ?_
  refine P.icmp_ne (t := 17) (dq dtX0_missAt 5 rfl) rfl (by omega) (by omega) (fun c_7 => ?_) (fun c_7 => ?_)
  · rw [if_neg (show ¬ w = 1 by omega)] at h
    refine P.iconst (dq dtX0_missAt 9 rfl) ?_
    refine P.iadd (dq dtX0_missAt 10 rfl) ?_
    refine P.istore_n (dq dtX0_missAt 11 rfl) (by decide) rfl rfl ?_
    refine P.aload_n (dq dtX0_missAt 12 rfl) rfl ?_
    refine P.iload_n (dq dtX0_missAt 13 rfl) rfl ?_
    refine P.iload_n (dq dtX0_missAt 14 rfl) rfl ?_
    refine P.callV2 (M' := mX0_meanAt) (d' := d - 1) mlX0_82 mcX0_meanAt mvX0_meanAt (dq dtX0_missAt 15 rfl) (by omega) (Nat.le_of_ble_eq_true rfl) (by repeat (first | assumption | exact up_s | rw [up_n (by first | assumption | (apply Ne.symm; assumption) | decide | omega)])) rfl ?_
    refine ct_X0_meanAt (by repeat (first | assumption | exact up_s | rw [up_n (by first | assumption | (apply Ne.symm; assumption) | decide | omega)])) (by omega) (by omega) (by repeat (first | assumption | exact up_s | rw [up_n (by first | assumption | (apply Ne.symm; assumption) | decide | omega)])) (by omega) (by omega) ?_
    refine P.bipush (dq dtX0_missAt 16 rfl) rfl ?_
    refine P.iload_n (dq dtX0_missAt 17 rfl) rfl ?_
    refine P.imul (dq dtX0_missAt 18 rfl) ?_
    refine P.iadd (dq dtX0_missAt 19 rfl) ?_
    refine P.iret (dq dtX0_missAt 20 rfl) rfl rfl rfl ?_
    exact h
  · rw [if_pos (show w = 1 by omega)] at h
    refine P.aload_n (dq dtX0_missAt 6 rfl) rfl ?_
    refine P.get flX0_46 (dq dtX0_missAt 7 rfl) (by repeat (first | assumption | exact up_s | rw [up_n (by first | assumption | (apply Ne.symm; assumption) | decide | omega)])) (by rfl) ?_
    refine P.goto (t := 18) (dq dtX0_missAt 8 rfl) rfl ?_
    refine P.iadd (dq dtX0_missAt 10 rfl) ?_
    refine P.istore_n (dq dtX0_missAt 11 rfl) (by decide) rfl rfl ?_
    refine P.aload_n (dq dtX0_missAt 12 rfl) rfl ?_
    refine P.iload_n (dq dtX0_missAt 13 rfl) rfl ?_
    refine P.iload_n (dq dtX0_missAt 14 rfl) rfl ?_
    refine P.callV2 (M' := mX0_meanAt) (d' := d - 1) mlX0_82 mcX0_meanAt mvX0_meanAt (dq dtX0_missAt 15 rfl) (by omega) (Nat.le_of_ble_eq_true rfl) (by repeat (first | assumption | exact up_s | rw [up_n (by first | assumption | (apply Ne.symm; assumption) | decide | omega)])) rfl ?_
    refine ct_X0_meanAt (by repeat (first | assumption | exact up_s | rw [up_n (by first | assumption | (apply Ne.symm; assumption) | decide | omega)])) (by omega) (by omega) (by repeat (first | assumption | exact up_s | rw [up_n (by first | assumption | (apply Ne.symm; assumption) | decide | omega)])) (by omega) (by omega) ?_
    refine P.bipush (dq dtX0_missAt 16 rfl) rfl ?_
    refine P.iload_n (dq dtX0_missAt 17 rfl) rfl ?_
    refine P.imul (dq dtX0_missAt 18 rfl) ?_
    refine P.iadd (dq dtX0_missAt 19 rfl) ?_
    refine P.iret (dq dtX0_missAt 20 rfl) rfl rfl rfl ?_
    exact h
/-- Figures.lastIsNotMore -/
theorem ct_X0_lastIsNotMore {x : CM} {d N : Nat} {σ : PH} {Q : PQ} {q : Nat} {p s po pt pl : Int} (hq : σ q = fgO q p s po pt pl) (hp : 0 ≤ p ∧ p ≤ 8) {si to : Int → Int} (hs : σ (q + 4) = pcI 0 8 si) (ht0 : σ (q + 5) = pcI 0 8 to) (hpo : 2 ≤ po ∧ po ≤ 8) (hb1 : -100000000 ≤ to (po - 1) * si (po - 1 - 1) ∧ to (po - 1) * si (po - 1 - 1) ≤ 100000000) (hb2 : -100000000 ≤ to (po - 1 - 1) * si (po - 1) ∧ to (po - 1 - 1) * si (po - 1) ≤ 100000000) (ht : to (po - 1) * si (po - 1 - 1) ≤ to (po - 1 - 1) * si (po - 1) → Q (some (vI 1)) σ) (hf : ¬ (to (po - 1) * si (po - 1 - 1) ≤ to (po - 1 - 1) * si (po - 1)) → Q (some (vI 0)) σ) : Call x d 0 0 mX0_lastIsNotMore [vR q] N σ Q := by
  refine Call.of mcX0_lastIsNotMore (Nat.le_of_ble_eq_true rfl) (fun y hy => ?_)
  subst hy
  refine P.aload_n (dq dtX0_lastIsNotMore 0 rfl) rfl ?_
  refine P.get flX0_25 (dq dtX0_lastIsNotMore 1 rfl) (by repeat (first | assumption | exact up_s | rw [up_n (by first | assumption | (apply Ne.symm; assumption) | decide | omega)])) (by rfl) ?_
  refine P.iconst (dq dtX0_lastIsNotMore 2 rfl) ?_
  refine P.isub (dq dtX0_lastIsNotMore 3 rfl) ?_
  refine P.istore_n (dq dtX0_lastIsNotMore 4 rfl) (by decide) rfl rfl ?_
  refine P.aload_n (dq dtX0_lastIsNotMore 5 rfl) rfl ?_
  refine P.get flX0_34 (dq dtX0_lastIsNotMore 6 rfl) (by repeat (first | assumption | exact up_s | rw [up_n (by first | assumption | (apply Ne.symm; assumption) | decide | omega)])) (by rfl) ?_
  refine P.iload_n (dq dtX0_lastIsNotMore 7 rfl) rfl ?_
  refine P.iald (dq dtX0_lastIsNotMore 8 rfl) (by repeat (first | assumption | exact up_s | rw [up_n (by first | assumption | (apply Ne.symm; assumption) | decide | omega)])) (by omega) (by omega) (by omega) ?_
  refine P.aload_n (dq dtX0_lastIsNotMore 9 rfl) rfl ?_
  refine P.get flX0_31 (dq dtX0_lastIsNotMore 10 rfl) (by repeat (first | assumption | exact up_s | rw [up_n (by first | assumption | (apply Ne.symm; assumption) | decide | omega)])) (by rfl) ?_
  refine P.iload_n (dq dtX0_lastIsNotMore 11 rfl) rfl ?_
  refine P.iconst (dq dtX0_lastIsNotMore 12 rfl) ?_
  refine P.isub (dq dtX0_lastIsNotMore 13 rfl) ?_
  refine P.iald (dq dtX0_lastIsNotMore 14 rfl) (by repeat (first | assumption | exact up_s | rw [up_n (by first | assumption | (apply Ne.symm; assumption) | decide | omega)])) (by omega) (by omega) (by omega) ?_
  refine P.imul (dq dtX0_lastIsNotMore 15 rfl) ?_
  refine P.aload_n (dq dtX0_lastIsNotMore 16 rfl) rfl ?_
  refine P.get flX0_34 (dq dtX0_lastIsNotMore 17 rfl) (by repeat (first | assumption | exact up_s | rw [up_n (by first | assumption | (apply Ne.symm; assumption) | decide | omega)])) (by rfl) ?_
  refine P.iload_n (dq dtX0_lastIsNotMore 18 rfl) rfl ?_
  refine P.iconst (dq dtX0_lastIsNotMore 19 rfl) ?_
  refine P.isub (dq dtX0_lastIsNotMore 20 rfl) ?_
  refine P.iald (dq dtX0_lastIsNotMore 21 rfl) (by repeat (first | assumption | exact up_s | rw [up_n (by first | assumption | (apply Ne.symm; assumption) | decide | omega)])) (by omega) (by omega) (by omega) ?_
  refine P.aload_n (dq dtX0_lastIsNotMore 22 rfl) rfl ?_
  refine P.get flX0_31 (dq dtX0_lastIsNotMore 23 rfl) (by repeat (first | assumption | exact up_s | rw [up_n (by first | assumption | (apply Ne.symm; assumption) | decide | omega)])) (by rfl) ?_
  refine P.iload_n (dq dtX0_lastIsNotMore 24 rfl) rfl ?_
  refine P.iald (dq dtX0_lastIsNotMore 25 rfl) (by repeat (first | assumption | exact up_s | rw [up_n (by first | assumption | (apply Ne.symm; assumption) | decide | omega)])) (by omega) (by omega) (by omega) ?_
  refine P.imul (dq dtX0_lastIsNotMore 26 rfl) ?_
  refine P.icmp_gt (t := 44) (dq dtX0_lastIsNotMore 27 rfl) rfl (by omega) (by omega) (fun c_37 => ?_) (fun c_37 => ?_)
  · refine P.iconst (dq dtX0_lastIsNotMore 30 rfl) ?_
    refine P.zret (dq dtX0_lastIsNotMore 31 rfl) rfl rfl (by decide) rfl ?_
    first | exact ht (by omega) | exact hf (by omega)
  · refine P.iconst (dq dtX0_lastIsNotMore 28 rfl) ?_
    refine P.goto (t := 45) (dq dtX0_lastIsNotMore 29 rfl) rfl ?_
    refine P.zret (dq dtX0_lastIsNotMore 31 rfl) rfl rfl (by decide) rfl ?_
    first | exact ht (by omega) | exact hf (by omega)
end
section
/-! what is reckoned, as functions of what is measured -/
def GMs (v : MsV) : Prop := (2 ≤ v.1 ∧ v.1 ≤ 8) ∧ (10 ≤ v.2.1 ∧ v.2.1 ≤ 99) ∧ ∀ t : Int, 0 ≤ t → t < 16 → (0 ≤ v.2.2.1 t ∧ v.2.2.1 t ≤ 6) ∧ ∀ j : Int, 0 ≤ j ∧ j < v.2.2.1 t → -40 ≤ v.2.2.2 (t * 6 + j) ∧ v.2.2.2 (t * 6 + j) ≤ 40
abbrev mm (v : MsV) : Int → Int := m60 v.2.2.1 v.2.2.2
def wnt (v : MsV) : Int → Int := fun k => 120 * k * v.2.1 - (mm v (k * 2 + 0) + mm v (k * 2 + 1))
def plT (m : Int → Int) : Nat → Int
  | 0 => 0
  | k + 1 => plT m k + (m ((k : Int) * 2 + 0) - m ((k : Int) * 2 + 1))
def tabF (g : Int → Int) : Nat → Int
  | 0 => g 0
  | k + 1 => if g ((k + 1 : Nat) : Int) ≤ tabF g k then tabF g k + 1 else g ((k + 1 : Nat) : Int)
theorem tdiv_s {a c b : Int} (hc : 0 < c) (h1 : -(b * c) ≤ a) (h2 : a ≤ b * c) : -b ≤ a.tdiv c ∧ a.tdiv c ≤ b := by
  obtain ⟨g1, g2⟩ := tdiv_b (a := a) hc
  rcases Int.lt_or_le a 0 with h | h
  · obtain ⟨q1, q2, q3⟩ := g2 h
    have hb : 0 ≤ b := by
      rcases Int.lt_or_le b 0 with hb | hb
      · have := Int.mul_neg_of_neg_of_pos hb hc
        omega
      · exact hb
    refine ⟨?_, by omega⟩
    rcases Int.lt_or_le (a.tdiv c) (-b) with hx | hx
    · have : (a.tdiv c) * c ≤ (-b - 1) * c := Int.mul_le_mul_of_nonneg_right (by omega) (by omega)
      rw [Int.sub_mul, Int.neg_mul] at this
      omega
    · exact hx
  · obtain ⟨q1, q2, q3⟩ := g1 h
    have hb : 0 ≤ b := by
      rcases Int.lt_or_le b 0 with hb | hb
      · have := Int.mul_neg_of_neg_of_pos hb hc
        omega
      · exact hb
    refine ⟨by omega, ?_⟩
    rcases Int.lt_or_le b (a.tdiv c) with hx | hx
    · have : (b + 1) * c ≤ (a.tdiv c) * c := Int.mul_le_mul_of_nonneg_right (by omega) (by omega)
      rw [Int.add_mul] at this
      omega
    · exact hx
theorem mm_b {v : MsV} (h : GMs v) {t : Int} (h0 : 0 ≤ t) (h1 : t < 16) : -2400 ≤ mm v t ∧ mm v t ≤ 2400 := by
  obtain ⟨g1, g2⟩ := h.2.2 t h0 h1
  unfold mm m60
  split
  · omega
  · have hs := sumF_b (f := v.2.2.2) (a := t * 6) (c := 40) (by omega) (v.2.2.1 t).toNat (fun k hk => g2 k (by omega))
    exact tdiv_s (by omega) (by omega) (by omega)
theorem mul_bd {k s : Int} (h0 : 0 ≤ k) (h1 : k ≤ 7) (h2 : 10 ≤ s) (h3 : s ≤ 99) : 0 ≤ k * s ∧ k * s ≤ 693 := by
  have e1 := Int.mul_nonneg h0 (show 0 ≤ s by omega)
  have e2 : k * s ≤ 7 * s := Int.mul_le_mul_of_nonneg_right h1 (by omega)
  omega
theorem wnt_b {v : MsV} (h : GMs v) {k : Int} (h0 : 0 ≤ k) (h1 : k < 8) : -90000 ≤ wnt v k ∧ wnt v k ≤ 90000 := by
  have e1 := mm_b h (t := k * 2 + 0) (by omega) (by omega)
  have e2 := mm_b h (t := k * 2 + 1) (by omega) (by omega)
  have e3 := mul_bd h0 (by omega) h.2.1.1 h.2.1.2
  unfold wnt
  rw [Int.mul_assoc]
  omega
theorem plT_b {m : Int → Int} : ∀ k : Nat, (∀ t : Int, 0 ≤ t → t < 2 * k → -2400 ≤ m t ∧ m t ≤ 2400) → -(4800 * (k : Int)) ≤ plT m k ∧ plT m k ≤ 4800 * k := by
  intro k
  induction k with
  | zero => intro _; simp [plT]
  | succ k ih =>
    intro h
    have h1 := ih (fun t g1 g2 => h t g1 (by omega))
    have h2 := h ((k : Int) * 2 + 0) (by omega) (by omega)
    have h3 := h ((k : Int) * 2 + 1) (by omega) (by omega)
    show -(4800 * ((k + 1 : Nat) : Int)) ≤ plT m k + (m ((k : Int) * 2 + 0) - m ((k : Int) * 2 + 1)) ∧ plT m k + (m ((k : Int) * 2 + 0) - m ((k : Int) * 2 + 1)) ≤ 4800 * ((k + 1 : Nat) : Int)
    omega
theorem plT_c {m m' : Int → Int} : ∀ k : Nat, (∀ t : Int, 0 ≤ t → t < 2 * k → m t = m' t) → plT m k = plT m' k := by
  intro k
  induction k with
  | zero => intro _; rfl
  | succ k ih =>
    intro h
    show plT m k + _ = plT m' k + _
    rw [ih (fun t g1 g2 => h t g1 (by omega)), h _ (by omega) (by omega), h _ (by omega) (by omega)]
theorem pool_c {w w' : Int → Int} : ∀ k : Nat, (∀ i : Nat, i < k → w i = w' i) → pool w k = pool w' k := by
  intro k
  induction k with
  | zero => intro _; rfl
  | succ k ih =>
    intro h
    show mrgA (w k) 1 (pool w k) = mrgA (w' k) 1 (pool w' k)
    rw [ih (fun i hi => h i (by omega)), h k (by omega)]
theorem tabF_c {g g' : Int → Int} : ∀ k : Nat, (∀ i : Nat, i ≤ k → g i = g' i) → tabF g k = tabF g' k := by
  intro k
  induction k with
  | zero => intro h; exact h 0 (by omega)
  | succ k ih =>
    intro h
    show (if g ((k + 1 : Nat) : Int) ≤ tabF g k then tabF g k + 1 else g ((k + 1 : Nat) : Int)) = (if g' ((k + 1 : Nat) : Int) ≤ tabF g' k then tabF g' k + 1 else g' ((k + 1 : Nat) : Int))
    rw [ih (fun i hi => h i (by omega)), h (k + 1) (by omega)]
theorem tabF_b {g : Int → Int} {lo hi : Int} : ∀ k : Nat, (∀ i : Nat, i ≤ k → lo ≤ g i ∧ g i ≤ hi) → lo ≤ tabF g k ∧ tabF g k ≤ hi + k := by
  intro k
  induction k with
  | zero => intro h; have := h 0 (by omega); show lo ≤ g 0 ∧ g 0 ≤ hi + ((0 : Nat) : Int); simp at this ⊢; omega
  | succ k ih =>
    intro h
    have h1 := ih (fun i hi => h i (by omega))
    have h2 := h (k + 1) (by omega)
    show lo ≤ (if g ((k + 1 : Nat) : Int) ≤ tabF g k then tabF g k + 1 else g ((k + 1 : Nat) : Int)) ∧ (if g ((k + 1 : Nat) : Int) ≤ tabF g k then tabF g k + 1 else g ((k + 1 : Nat) : Int)) ≤ hi + ((k + 1 : Nat) : Int)
    split <;> omega
theorem near_b {a c b : Int} (hc : 0 < c) (hb : 0 ≤ b) (h1 : -(b * c) ≤ a) (h2 : a ≤ b * c) : -b - 1 ≤ near a c ∧ near a c ≤ b + 1 := by
  rw [near_eq hc]
  constructor
  · refine (Int.le_ediv_iff_mul_le (by omega)).mpr ?_
    have e : (-b - 1) * (2 * c) = -(2 * (b * c)) - 2 * c := by
      rw [Int.sub_mul, Int.neg_mul, Int.mul_left_comm]; omega
    rw [e]; omega
  · have : (2 * a + c - 1) / (2 * c) < b + 2 := by
      refine (Int.ediv_lt_iff_lt_mul (by omega)).mpr ?_
      have e : (b + 2) * (2 * c) = 2 * (b * c) + 4 * c := by
        rw [Int.add_mul, Int.mul_left_comm]; omega
      rw [e]; omega
    omega
end
section
theorem lp_takeMeans {x : CX} {d N : Nat} {σ : PH} {Q : PQ} {q mq : Nat} {v : MsV} {po pt pl : Int} (hG : GMs v) (hmq : mq + 2 < q ∨ q + 7 < mq) (hd : 3 ≤ d) (hq : σ q = fgO q v.1 v.2.1 po pt pl) (hM : Ms σ mq v) (h : ∀ (σ' : PH) (me wa : Int → Int), σ' (q + 1) = pcI 0 16 me → σ' (q + 2) = pcI 0 8 wa → (∀ i : Int, 0 ≤ i → i < 2 * v.1 → me i = mm v i) → (∀ i : Int, 0 ≤ i → i < v.1 → wa i = wnt v i) → Fr σ σ' [q + 1, q + 2] → Q none σ') : ∀ (t : Nat) (k : Int) (me wa : Int → Int) (σ' : PH), 0 ≤ k ∧ k ≤ v.1 → v.1 - k < t → σ' (q + 1) = pcI 0 16 me → σ' (q + 2) = pcI 0 8 wa → (∀ i : Int, 0 ≤ i → i < 2 * k → me i = mm v i) → (∀ i : Int, 0 ≤ i → i < k → wa i = wnt v i) → Fr σ σ' [q + 1, q + 2] → P x d mX0_takeMeans Q (0, 0) 2 [some (vR q), some (vR mq), some (vI k)] [] N σ' := by
  intro t
  induction t with
  | zero =>
    intro k me wa σ' hk ht h1 h2 hme hwa hF
    exfalso; omega
  | succ t ih =>
    intro k me wa σ' hk ht h1 h2 hme hwa hF
    have hq' : σ' q = fgO q v.1 v.2.1 po pt pl := (hF q (by simp)).trans hq
    have hM1 : Ms σ' mq v := hM.fr hF (by simp <;> omega) (by simp <;> omega) (by simp <;> omega)
    have hv1 := hG.1
    have hv2 := hG.2.1
    refine P.iload_n (dq dtX0_takeMeans 2 rfl) rfl ?_
    refine P.aload_n (dq dtX0_takeMeans 3 rfl) rfl ?_
    refine P.get flX0_9 (dq dtX0_takeMeans 4 rfl) (by repeat (first | assumption | exact up_s | rw [up_n (by first | assumption | (apply Ne.symm; assumption) | decide | omega)])) (by rfl) ?_
    refine P.icmp_ge (t := 69) (dq dtX0_takeMeans 5 rfl) rfl (by omega) (by omega) (fun c_7 => ?_) (fun c_7 => ?_)
    · refine P.vret (dq dtX0_takeMeans 46 rfl) rfl rfl rfl ?_
      obtain rfl : k = v.1 := by omega
      exact h _ me wa h1 h2 hme hwa hF
    · refine P.aload_n (dq dtX0_takeMeans 6 rfl) rfl ?_
      refine P.get flX0_18 (dq dtX0_takeMeans 7 rfl) (by repeat (first | assumption | exact up_s | rw [up_n (by first | assumption | (apply Ne.symm; assumption) | decide | omega)])) (by rfl) ?_
      refine P.iload_n (dq dtX0_takeMeans 8 rfl) rfl ?_
      refine P.iconst (dq dtX0_takeMeans 9 rfl) ?_
      refine P.imul (dq dtX0_takeMeans 10 rfl) ?_
      refine P.iconst (dq dtX0_takeMeans 11 rfl) ?_
      refine P.iadd (dq dtX0_takeMeans 12 rfl) ?_
      refine P.aload_n (dq dtX0_takeMeans 13 rfl) rfl ?_
      refine P.iload_n (dq dtX0_takeMeans 14 rfl) rfl ?_
      refine P.iconst (dq dtX0_takeMeans 15 rfl) ?_
      refine P.callV2 (M' := mX2_meanOf) (d' := d - 1) mlX0_75 mcX2_meanOf mvX2_meanOf (dq dtX0_takeMeans 16 rfl) (by omega) (Nat.le_of_ble_eq_true rfl) hM1.1 rfl ?_
      refine ct_X2_meanOf (v := v) hM1 (by omega) (by omega) (by omega) (by omega) (hG.2.2 (k * 2 + 0) (by omega) (by omega)).1 (hG.2.2 (k * 2 + 0) (by omega) (by omega)).2 ?_
      refine P.iast (dq dtX0_takeMeans 17 rfl) (by repeat (first | assumption | exact up_s | rw [up_n (by first | assumption | (apply Ne.symm; assumption) | decide | omega)])) (by omega) (by omega) (by omega) ?_
      refine P.aload_n (dq dtX0_takeMeans 18 rfl) rfl ?_
      refine P.get flX0_18 (dq dtX0_takeMeans 19 rfl) (by repeat (first | assumption | exact up_s | rw [up_n (by first | assumption | (apply Ne.symm; assumption) | decide | omega)])) (by rfl) ?_
      refine P.iload_n (dq dtX0_takeMeans 20 rfl) rfl ?_
      refine P.iconst (dq dtX0_takeMeans 21 rfl) ?_
      refine P.imul (dq dtX0_takeMeans 22 rfl) ?_
      refine P.iconst (dq dtX0_takeMeans 23 rfl) ?_
      refine P.iadd (dq dtX0_takeMeans 24 rfl) ?_
      refine P.aload_n (dq dtX0_takeMeans 25 rfl) rfl ?_
      refine P.iload_n (dq dtX0_takeMeans 26 rfl) rfl ?_
      refine P.iconst (dq dtX0_takeMeans 27 rfl) ?_
      refine P.callV2 (M' := mX2_meanOf) (d' := d - 1) mlX0_75 mcX2_meanOf mvX2_meanOf (dq dtX0_takeMeans 28 rfl) (by omega) (Nat.le_of_ble_eq_true rfl) ((up_n (by omega)).trans hM1.1) rfl ?_
      refine ct_X2_meanOf (v := v) (hM1.fr (S := [q + 1]) (by repeat (first | assumption | exact Fr.rf | refine Fr.up ?_ (by simp))) (by simp <;> omega) (by simp <;> omega) (by simp <;> omega)) (by omega) (by omega) (by omega) (by omega) (hG.2.2 (k * 2 + 1) (by omega) (by omega)).1 (hG.2.2 (k * 2 + 1) (by omega) (by omega)).2 ?_
      refine P.iast (dq dtX0_takeMeans 29 rfl) (by repeat (first | assumption | exact up_s | rw [up_n (by first | assumption | (apply Ne.symm; assumption) | decide | omega)])) (by omega) (by omega) (by omega) ?_
      refine P.aload_n (dq dtX0_takeMeans 30 rfl) rfl ?_
      refine P.get flX0_22 (dq dtX0_takeMeans 31 rfl) (by repeat (first | assumption | exact up_s | rw [up_n (by first | assumption | (apply Ne.symm; assumption) | decide | omega)])) (by rfl) ?_
      refine P.iload_n (dq dtX0_takeMeans 32 rfl) rfl ?_
      refine P.bipush (dq dtX0_takeMeans 33 rfl) rfl ?_
      refine P.iload_n (dq dtX0_takeMeans 34 rfl) rfl ?_
      refine P.imul (dq dtX0_takeMeans 35 rfl) ?_
      refine P.aload_n (dq dtX0_takeMeans 36 rfl) rfl ?_
      refine P.get flX0_15 (dq dtX0_takeMeans 37 rfl) (by repeat (first | assumption | exact up_s | rw [up_n (by first | assumption | (apply Ne.symm; assumption) | decide | omega)])) (by rfl) ?_
      refine P.imul (dq dtX0_takeMeans 38 rfl) ?_
      refine P.aload_n (dq dtX0_takeMeans 39 rfl) rfl ?_
      refine P.iload_n (dq dtX0_takeMeans 40 rfl) rfl ?_
      refine P.callV1 (M' := mX0_slopeAt) (d' := d - 1) mlX0_78 mcX0_slopeAt mvX0_slopeAt (dq dtX0_takeMeans 41 rfl) (by omega) (Nat.le_of_ble_eq_true rfl) (by repeat (first | assumption | exact up_s | rw [up_n (by first | assumption | (apply Ne.symm; assumption) | decide | omega)])) rfl ?_
      refine ct_X0_slopeAt (by repeat (first | assumption | exact up_s | rw [up_n (by first | assumption | (apply Ne.symm; assumption) | decide | omega)])) (by omega) (by omega) (by repeat (first | assumption | exact up_s | rw [up_n (by first | assumption | (apply Ne.symm; assumption) | decide | omega)])) (by omega) ?_
      refine P.isub (dq dtX0_takeMeans 42 rfl) ?_
      refine P.iast (dq dtX0_takeMeans 43 rfl) (by repeat (first | assumption | exact up_s | rw [up_n (by first | assumption | (apply Ne.symm; assumption) | decide | omega)])) (by omega) (by omega) (by omega) ?_
      refine P.iinc (dq dtX0_takeMeans 44 rfl) rfl (by decide) rfl rfl ?_
      refine P.goto (t := 2) (dq dtX0_takeMeans 45 rfl) rfl ?_
      refine ih (k + 1) (upI (upI me (k * 2 + 0) (mm v (k * 2 + 0))) (k * 2 + 1) (mm v (k * 2 + 1))) (upI wa k (wnt v k)) _ (by omega) (by omega) (by repeat (first | assumption | exact up_s | rw [up_n (by first | assumption | (apply Ne.symm; assumption) | decide | omega)])) ?_ (fun i g1 g2 => ?_) (fun i g1 g2 => ?_) (by repeat (first | assumption | exact Fr.rf | refine Fr.up ?_ (by simp)))
      · rw [up_s]
        congr 2
        have e1 : upI (upI me (k * 2 + 0) (mm v (k * 2 + 0))) (k * 2 + 1) (mm v (k * 2 + 1)) (k * 2 + 0) = mm v (k * 2 + 0) := by { rw [upI_n (by omega), upI_s] }
        have e2 : upI (upI me (k * 2 + 0) (mm v (k * 2 + 0))) (k * 2 + 1) (mm v (k * 2 + 1)) (k * 2 + 1) = mm v (k * 2 + 1) := upI_s
        rw [e1, e2]
        rfl
      · by_cases e3 : i = k * 2 + 1
        · rw [e3, upI_s]
        · rw [upI_n e3]
          by_cases e4 : i = k * 2 + 0
          · rw [e4, upI_s]
          · rw [upI_n e4]
            exact hme i g1 (by omega)
      · by_cases e3 : i = k
        · rw [e3, upI_s]
        · rw [upI_n e3]
          exact hwa i g1 (by omega)
/-- Figures.takeMeans -/
theorem ct_X0_takeMeans {x : CM} {d N : Nat} {σ : PH} {Q : PQ} {q mq : Nat} {v : MsV} {po pt pl : Int} {me0 wa0 : Int → Int} (hG : GMs v) (hmq : mq + 2 < q ∨ q + 7 < mq) (hd : 3 ≤ d) (hq : σ q = fgO q v.1 v.2.1 po pt pl) (hM : Ms σ mq v) (hm1 : σ (q + 1) = pcI 0 16 me0) (hm2 : σ (q + 2) = pcI 0 8 wa0) (h : ∀ (σ' : PH) (me wa : Int → Int), σ' (q + 1) = pcI 0 16 me → σ' (q + 2) = pcI 0 8 wa → (∀ i : Int, 0 ≤ i → i < 2 * v.1 → me i = mm v i) → (∀ i : Int, 0 ≤ i → i < v.1 → wa i = wnt v i) → Fr σ σ' [q + 1, q + 2] → Q none σ') : Call x d 0 0 mX0_takeMeans [vR q, vR mq] N σ Q := by
  refine Call.of mcX0_takeMeans (Nat.le_of_ble_eq_true rfl) (fun y hy => ?_)
  subst hy
  refine P.iconst (dq dtX0_takeMeans 0 rfl) ?_
  refine P.istore_n (dq dtX0_takeMeans 1 rfl) (by decide) rfl rfl ?_
  have hv1 := hG.1
  exact lp_takeMeans hG hmq hd hq hM h 9 0 me0 wa0 σ (by omega) (by omega) hm1 hm2 (fun i g1 g2 => absurd g1 (by omega)) (fun i g1 g2 => absurd g1 (by omega)) Fr.rf
def plc (p T : Int) : Int := if near T (60 * p) ≤ 0 then 0 else near T (60 * p)
theorem lp_takePlay {x : CX} {d N : Nat} {σ : PH} {Q : PQ} {q : Nat} {p s po pl : Int} {me : Int → Int} (hp : 2 ≤ p ∧ p ≤ 8) (hd : 2 ≤ d) (hm : σ (q + 1) = pcI 0 16 me) (hb : ∀ t : Int, 0 ≤ t → t < 2 * p → -2400 ≤ me t ∧ me t ≤ 2400) (h : ∀ σ' : PH, σ' q = fgO q p s po (plT me p.toNat) (plc p (plT me p.toNat)) → Fr σ σ' [q] → Q none σ') : ∀ (t k : Nat) (σ' : PH), (k : Int) ≤ p → p - k < t → σ' q = fgO q p s po (plT me k) pl → Fr σ σ' [q] → P x d mX0_takePlay Q (0, 0) 7 [some (vR q), some (vI k)] [] N σ' := by
  intro t
  induction t with
  | zero =>
    intro k σ' hk ht hq hF
    exfalso; omega
  | succ t ih =>
    intro k σ' hk ht hq hF
    have hm' : σ' (q + 1) = pcI 0 16 me := (hF (q + 1) (by simp)).trans hm
    refine P.iload_n (dq dtX0_takePlay 5 rfl) rfl ?_
    refine P.aload_n (dq dtX0_takePlay 6 rfl) rfl ?_
    refine P.get flX0_9 (dq dtX0_takePlay 7 rfl) (by repeat (first | assumption | exact up_s | rw [up_n (by first | assumption | (apply Ne.symm; assumption) | decide | omega)])) (by rfl) ?_
    refine P.icmp_ge (t := 43) (dq dtX0_takePlay 8 rfl) rfl (by omega) (by omega) (fun c_12 => ?_) (fun c_12 => ?_)
    · obtain rfl : k = p.toNat := by omega
      have hT := plT_b (m := me) p.toNat (fun t g1 g2 => hb t g1 (by omega))
      have hN := near_b (a := plT me p.toNat) (c := 60 * p) (b := 80) (by omega) (by omega) (by omega) (by omega)
      unfold plc at h
      refine P.aload_n (dq dtX0_takePlay 25 rfl) rfl ?_
      refine P.iconst (dq dtX0_takePlay 26 rfl) ?_
      refine P.aload_n (dq dtX0_takePlay 27 rfl) rfl ?_
      refine P.get flX0_43 (dq dtX0_takePlay 28 rfl) (by repeat (first | assumption | exact up_s | rw [up_n (by first | assumption | (apply Ne.symm; assumption) | decide | omega)])) (by rfl) ?_
      refine P.bipush (dq dtX0_takePlay 29 rfl) rfl ?_
      refine P.aload_n (dq dtX0_takePlay 30 rfl) rfl ?_
      refine P.get flX0_9 (dq dtX0_takePlay 31 rfl) (by repeat (first | assumption | exact up_s | rw [up_n (by first | assumption | (apply Ne.symm; assumption) | decide | omega)])) (by rfl) ?_
      refine P.imul (dq dtX0_takePlay 32 rfl) ?_
      refine P.callSN2 (M' := mX6_nearestLesser) (d' := d - 1) nlX0_85 mcX6_nearestLesser msX6_nearestLesser (dq dtX0_takePlay 33 rfl) (by omega) (Nat.le_of_ble_eq_true rfl) ?_
      refine ct_X6_nearestLesser (by omega) (by omega) (by omega) ?_
      refine P.callS2 (M' := mJ9_max_7cf53) (d' := d - 1) mlX0_58 mcJ9_max_7cf53 msJ9_max_7cf53 (dq dtX0_takePlay 34 rfl) (by omega) (Nat.le_of_ble_eq_true rfl) ?_
      refine ct_max (by omega) (by omega) (fun n_59 => ?_) (fun n_59 => ?_)
      · refine P.put flX0_46 rfl (dq dtX0_takePlay 35 rfl) (by repeat (first | assumption | exact up_s | rw [up_n (by first | assumption | (apply Ne.symm; assumption) | decide | omega)])) (by exact Nat.le_of_ble_eq_true rfl) rfl rfl rfl rfl rfl ?_
        refine P.vret (dq dtX0_takePlay 36 rfl) rfl rfl rfl ?_
        first | (rw [if_pos (show near (plT me p.toNat) (60 * p) ≤ 0 by omega)] at h; exact h _ up_s (by repeat (first | assumption | exact Fr.rf | refine Fr.up ?_ (by simp)))) | (rw [if_neg (show ¬ near (plT me p.toNat) (60 * p) ≤ 0 by omega)] at h; exact h _ up_s (by repeat (first | assumption | exact Fr.rf | refine Fr.up ?_ (by simp))))
      · refine P.put flX0_46 rfl (dq dtX0_takePlay 35 rfl) (by repeat (first | assumption | exact up_s | rw [up_n (by first | assumption | (apply Ne.symm; assumption) | decide | omega)])) (by exact Nat.le_of_ble_eq_true rfl) rfl rfl rfl rfl rfl ?_
        refine P.vret (dq dtX0_takePlay 36 rfl) rfl rfl rfl ?_
        first | (rw [if_pos (show near (plT me p.toNat) (60 * p) ≤ 0 by omega)] at h; exact h _ up_s (by repeat (first | assumption | exact Fr.rf | refine Fr.up ?_ (by simp)))) | (rw [if_neg (show ¬ near (plT me p.toNat) (60 * p) ≤ 0 by omega)] at h; exact h _ up_s (by repeat (first | assumption | exact Fr.rf | refine Fr.up ?_ (by simp))))
    · refine P.aload_n (dq dtX0_takePlay 9 rfl) rfl ?_
      refine P.dup (dq dtX0_takePlay 10 rfl) rfl ?_
      refine P.get flX0_43 (dq dtX0_takePlay 11 rfl) (by repeat (first | assumption | exact up_s | rw [up_n (by first | assumption | (apply Ne.symm; assumption) | decide | omega)])) (by rfl) ?_
      refine P.aload_n (dq dtX0_takePlay 12 rfl) rfl ?_
      refine P.iload_n (dq dtX0_takePlay 13 rfl) rfl ?_
      refine P.iconst (dq dtX0_takePlay 14 rfl) ?_
      refine P.callV2 (M' := mX0_meanAt) (d' := d - 1) mlX0_82 mcX0_meanAt mvX0_meanAt (dq dtX0_takePlay 15 rfl) (by omega) (Nat.le_of_ble_eq_true rfl) (by repeat (first | assumption | exact up_s | rw [up_n (by first | assumption | (apply Ne.symm; assumption) | decide | omega)])) rfl ?_
      refine ct_X0_meanAt (by repeat (first | assumption | exact up_s | rw [up_n (by first | assumption | (apply Ne.symm; assumption) | decide | omega)])) (by omega) (by omega) (by repeat (first | assumption | exact up_s | rw [up_n (by first | assumption | (apply Ne.symm; assumption) | decide | omega)])) (by omega) (by omega) ?_
      refine P.aload_n (dq dtX0_takePlay 16 rfl) rfl ?_
      refine P.iload_n (dq dtX0_takePlay 17 rfl) rfl ?_
      refine P.iconst (dq dtX0_takePlay 18 rfl) ?_
      refine P.callV2 (M' := mX0_meanAt) (d' := d - 1) mlX0_82 mcX0_meanAt mvX0_meanAt (dq dtX0_takePlay 19 rfl) (by omega) (Nat.le_of_ble_eq_true rfl) (by repeat (first | assumption | exact up_s | rw [up_n (by first | assumption | (apply Ne.symm; assumption) | decide | omega)])) rfl ?_
      refine ct_X0_meanAt (by repeat (first | assumption | exact up_s | rw [up_n (by first | assumption | (apply Ne.symm; assumption) | decide | omega)])) (by omega) (by omega) (by repeat (first | assumption | exact up_s | rw [up_n (by first | assumption | (apply Ne.symm; assumption) | decide | omega)])) (by omega) (by omega) ?_
      refine P.isub (dq dtX0_takePlay 20 rfl) ?_
      refine P.iadd (dq dtX0_takePlay 21 rfl) ?_
      refine P.put flX0_43 rfl (dq dtX0_takePlay 22 rfl) (by repeat (first | assumption | exact up_s | rw [up_n (by first | assumption | (apply Ne.symm; assumption) | decide | omega)])) (by exact Nat.le_of_ble_eq_true rfl) rfl rfl rfl rfl rfl ?_
      refine P.iinc (dq dtX0_takePlay 23 rfl) rfl (by decide) rfl rfl ?_
      refine P.goto (t := 7) (dq dtX0_takePlay 24 rfl) rfl ?_
      exact ih (k + 1) _ (by omega) (by omega) up_s (by repeat (first | assumption | exact Fr.rf | refine Fr.up ?_ (by simp)))
/-- Figures.takePlay -/
theorem ct_X0_takePlay {x : CM} {d N : Nat} {σ : PH} {Q : PQ} {q : Nat} {p s po pt pl : Int} {me : Int → Int} (hq : σ q = fgO q p s po pt pl) (hp : 2 ≤ p ∧ p ≤ 8) (hd : 2 ≤ d) (hm : σ (q + 1) = pcI 0 16 me) (hb : ∀ t : Int, 0 ≤ t → t < 2 * p → -2400 ≤ me t ∧ me t ≤ 2400) (h : ∀ σ' : PH, σ' q = fgO q p s po (plT me p.toNat) (plc p (plT me p.toNat)) → Fr σ σ' [q] → Q none σ') : Call x d 0 0 mX0_takePlay [vR q] N σ Q := by
  refine Call.of mcX0_takePlay (Nat.le_of_ble_eq_true rfl) (fun y hy => ?_)
  subst hy
  refine P.aload_n (dq dtX0_takePlay 0 rfl) rfl ?_
  refine P.iconst (dq dtX0_takePlay 1 rfl) ?_
  refine P.put flX0_43 rfl (dq dtX0_takePlay 2 rfl) (by repeat (first | assumption | exact up_s | rw [up_n (by first | assumption | (apply Ne.symm; assumption) | decide | omega)])) (by exact Nat.le_of_ble_eq_true rfl) rfl rfl rfl rfl rfl ?_
  refine P.iconst (dq dtX0_takePlay 3 rfl) ?_
  refine P.istore_n (dq dtX0_takePlay 4 rfl) (by decide) rfl rfl ?_
  exact lp_takePlay hp hd (σ := σ) hm hb h 9 0 _ (by omega) (by omega) up_s (by repeat (first | assumption | exact Fr.rf | refine Fr.up ?_ (by simp)))
end
section
theorem lp_merge {x : CX} {d N : Nat} {σ : PH} {Q : PQ} {q : Nat} {p s pt pl k : Int} (hp : 0 ≤ p ∧ p ≤ 8) (hd : 1 ≤ d) : ∀ (r : List (Int × Int)) (t z : Int) (fi si to : Int → Int) (σ' : PH), σ' q = fgO q p s (r.length + 1) pt pl → σ' (q + 3) = pcI 0 8 fi → σ' (q + 4) = pcI 0 8 si → σ' (q + 5) = pcI 0 8 to → Rl to si ((t, z) :: r) → RF fi ((t, z) :: r) → GB 90000 ((t, z) :: r) → szs ((t, z) :: r) ≤ 8 → Fr σ σ' [q, q + 3, q + 4, q + 5] →
    (∀ (σ2 : PH) (l : List (Int × Int)) (fi2 si2 to2 : Int → Int), l = mrgA t z r → σ2 q = fgO q p s l.length pt pl → σ2 (q + 3) = pcI 0 8 fi2 → σ2 (q + 4) = pcI 0 8 si2 → σ2 (q + 5) = pcI 0 8 to2 → Rl to2 si2 l → RF fi2 l → GB 90000 l → Fr σ σ2 [q, q + 3, q + 4, q + 5] → P x d mX0_poolWanted Q (0, 0) 134 [some (vR q), some (vI k), none] [] N σ2) →
    P x d mX0_poolWanted Q (0, 0) 60 [some (vR q), some (vI k), none] [] N σ' := by
  intro r
  induction r with
  | nil =>
    intro t z fi si to σ' hq h3 h4 h5 hR hF hg hz hFr kk
    simp only [List.length_nil] at hq
    refine P.aload_n (dq dtX0_poolWanted_0 36 rfl) rfl ?_
    refine P.get flX0_25 (dq dtX0_poolWanted_0 37 rfl) (by repeat (first | assumption | exact up_s | rw [up_n (by first | assumption | (apply Ne.symm; assumption) | decide | omega)])) (by rfl) ?_
    refine P.iconst (dq dtX0_poolWanted_0 38 rfl) ?_
    refine P.icmp_le (t := 134) (dq dtX0_poolWanted_0 39 rfl) rfl (by omega) (by omega) (fun c_65 => ?_) (fun c_65 => ?_)
    · exact kk σ' [(t, z)] fi si to rfl (by simpa using hq) h3 h4 h5 hR hF hg hFr
    · exfalso; omega
  | cons a r ih =>
    obtain ⟨t0, z0⟩ := a
    intro t z fi si to σ' hq h3 h4 h5 hR hF hg hz hFr kk
    have hR0 := hR
    have hF0 := hF
    have hg0 := hg
    obtain ⟨R1, R2, R3, R4, R5⟩ := hR
    obtain ⟨F1, F2, F3⟩ := hF
    obtain ⟨⟨g1, g2, g3⟩, ⟨g4, g5, g6⟩, g7⟩ := hg
    have hlen := GB_len r g7
    simp only [szs] at hz
    have ec : ((((t0, z0) :: r).length : Nat) : Int) = (r.length : Int) + 1 := by simp only [List.length_cons]; omega
    have el : ((((t, z) :: (t0, z0) :: r).length : Nat) : Int) = (r.length : Int) + 1 + 1 := by simp only [List.length_cons]; omega
    rw [ec] at hq R1 R2 F1
    have e1 : (r.length : Int) + 1 + 1 - 1 = (r.length : Int) + 1 := by omega
    have e2 : (r.length : Int) + 1 - 1 = (r.length : Int) := by omega
    have A1 : to ((r.length : Int) + 1 + 1 - 1) = t := by rw [e1]; exact R1
    have A2 : si ((r.length : Int) + 1 + 1 - 1) = z := by rw [e1]; exact R2
    have A3 : to ((r.length : Int) + 1 + 1 - 1 - 1) = t0 := by rw [e1, e2]; exact R3
    have A4 : si ((r.length : Int) + 1 + 1 - 1 - 1) = z0 := by rw [e1, e2]; exact R4
    have b1 : -(5760000) ≤ t * z0 ∧ t * z0 ≤ 5760000 := by
      have q1 : t * z0 ≤ (90000 * z) * z0 := Int.mul_le_mul_of_nonneg_right g3 (by omega)
      have q2 : -(90000 * z) * z0 ≤ t * z0 := Int.mul_le_mul_of_nonneg_right g2 (by omega)
      have q3 : z * z0 ≤ 8 * z0 := Int.mul_le_mul_of_nonneg_right (by omega) (by omega)
      rw [Int.mul_assoc] at q1
      rw [Int.neg_mul, Int.mul_assoc] at q2
      omega
    have b2 : -(5760000) ≤ t0 * z ∧ t0 * z ≤ 5760000 := by
      have q1 : t0 * z ≤ (90000 * z0) * z := Int.mul_le_mul_of_nonneg_right g6 (by omega)
      have q2 : -(90000 * z0) * z ≤ t0 * z := Int.mul_le_mul_of_nonneg_right g5 (by omega)
      have q3 : z0 * z ≤ 8 * z := Int.mul_le_mul_of_nonneg_right (by omega) (by omega)
      rw [Int.mul_assoc] at q1
      rw [Int.neg_mul, Int.mul_assoc] at q2
      omega
    refine P.aload_n (dq dtX0_poolWanted_0 36 rfl) rfl ?_
    refine P.get flX0_25 (dq dtX0_poolWanted_0 37 rfl) (by repeat (first | assumption | exact up_s | rw [up_n (by first | assumption | (apply Ne.symm; assumption) | decide | omega)])) (by rfl) ?_
    refine P.iconst (dq dtX0_poolWanted_0 38 rfl) ?_
    refine P.icmp_le (t := 134) (dq dtX0_poolWanted_0 39 rfl) rfl (by omega) (by omega) (fun c_65 => ?_) (fun c_65 => ?_)
    · first | (exfalso; omega) | (rw [A1, A2, A3, A4] at n_69; exact kk σ' ((t, z) :: (t0, z0) :: r) fi si to (show mrgA t z ((t0, z0) :: r) = (t, z) :: (t0, z0) :: r from if_neg n_69).symm (by rw [el]; exact hq) h3 h4 h5 hR0 hF0 hg0 hFr)
    · refine P.aload_n (dq dtX0_poolWanted_0 40 rfl) rfl ?_
      refine P.callV0 (M' := mX0_lastIsNotMore) (d' := d - 1) mlX0_88 mcX0_lastIsNotMore mvX0_lastIsNotMore (dq dtX0_poolWanted_0 41 rfl) (by omega) (Nat.le_of_ble_eq_true rfl) (by repeat (first | assumption | exact up_s | rw [up_n (by first | assumption | (apply Ne.symm; assumption) | decide | omega)])) rfl ?_
      refine ct_X0_lastIsNotMore (si := si) (to := to) (by repeat (first | assumption | exact up_s | rw [up_n (by first | assumption | (apply Ne.symm; assumption) | decide | omega)])) (by omega) (by repeat (first | assumption | exact up_s | rw [up_n (by first | assumption | (apply Ne.symm; assumption) | decide | omega)])) (by repeat (first | assumption | exact up_s | rw [up_n (by first | assumption | (apply Ne.symm; assumption) | decide | omega)])) (by omega) (by rw [A1, A4]; omega) (by rw [A3, A2]; omega) (fun n_69 => ?_) (fun n_69 => ?_)
      · refine P.if_eq (t := 134) (dq dtX0_poolWanted_0 42 rfl) rfl (by omega) (fun h9 => absurd h9 (by decide)) (fun _ => ?_)
        refine P.aload_n (dq dtX0_poolWanted_0 43 rfl) rfl ?_
        refine P.dup (dq dtX0_poolWanted_0 44 rfl) rfl ?_
        refine P.get flX0_25 (dq dtX0_poolWanted_0 45 rfl) (by repeat (first | assumption | exact up_s | rw [up_n (by first | assumption | (apply Ne.symm; assumption) | decide | omega)])) (by rfl) ?_
        refine P.iconst (dq dtX0_poolWanted_0 46 rfl) ?_
        refine P.isub (dq dtX0_poolWanted_0 47 rfl) ?_
        refine P.put flX0_25 rfl (dq dtX0_poolWanted_0 48 rfl) (by repeat (first | assumption | exact up_s | rw [up_n (by first | assumption | (apply Ne.symm; assumption) | decide | omega)])) (by exact Nat.le_of_ble_eq_true rfl) rfl rfl rfl rfl rfl ?_
        rw [e1]
        refine P.aload_n (dq dtX0_poolWanted_0 49 rfl) rfl ?_
        refine P.get flX0_31 (dq dtX0_poolWanted_0 50 rfl) (by repeat (first | assumption | exact up_s | rw [up_n (by first | assumption | (apply Ne.symm; assumption) | decide | omega)])) (by rfl) ?_
        refine P.aload_n (dq dtX0_poolWanted_0 51 rfl) rfl ?_
        refine P.get flX0_25 (dq dtX0_poolWanted_0 52 rfl) (by repeat (first | assumption | exact up_s | rw [up_n (by first | assumption | (apply Ne.symm; assumption) | decide | omega)])) (by rfl) ?_
        refine P.iconst (dq dtX0_poolWanted_0 53 rfl) ?_
        refine P.isub (dq dtX0_poolWanted_0 54 rfl) ?_
        refine P.dup2 (dq dtX0_poolWanted_0 55 rfl) rfl rfl ?_
        refine P.iald (dq dtX0_poolWanted_0 56 rfl) (by repeat (first | assumption | exact up_s | rw [up_n (by first | assumption | (apply Ne.symm; assumption) | decide | omega)])) (by omega) (by omega) (by omega) ?_
        refine P.aload_n (dq dtX0_poolWanted_0 57 rfl) rfl ?_
        refine P.get flX0_31 (dq dtX0_poolWanted_0 58 rfl) (by repeat (first | assumption | exact up_s | rw [up_n (by first | assumption | (apply Ne.symm; assumption) | decide | omega)])) (by rfl) ?_
        refine P.aload_n (dq dtX0_poolWanted_0 59 rfl) rfl ?_
        refine P.get flX0_25 (dq dtX0_poolWanted_0 60 rfl) (by repeat (first | assumption | exact up_s | rw [up_n (by first | assumption | (apply Ne.symm; assumption) | decide | omega)])) (by rfl) ?_
        refine P.iald (dq dtX0_poolWanted_0 61 rfl) (by repeat (first | assumption | exact up_s | rw [up_n (by first | assumption | (apply Ne.symm; assumption) | decide | omega)])) (by omega) (by omega) (by omega) ?_
        refine P.iadd (dq dtX0_poolWanted_0 62 rfl) ?_
        refine P.iast (dq dtX0_poolWanted_0 63 rfl) (by repeat (first | assumption | exact up_s | rw [up_n (by first | assumption | (apply Ne.symm; assumption) | decide | omega)])) (by omega) (by omega) (by omega) ?_
        refine P.aload_n (dq dtX0_poolWanted_1 0 rfl) rfl ?_
        refine P.get flX0_34 (dq dtX0_poolWanted_1 1 rfl) (by repeat (first | assumption | exact up_s | rw [up_n (by first | assumption | (apply Ne.symm; assumption) | decide | omega)])) (by rfl) ?_
        refine P.aload_n (dq dtX0_poolWanted_1 2 rfl) rfl ?_
        refine P.get flX0_25 (dq dtX0_poolWanted_1 3 rfl) (by repeat (first | assumption | exact up_s | rw [up_n (by first | assumption | (apply Ne.symm; assumption) | decide | omega)])) (by rfl) ?_
        refine P.iconst (dq dtX0_poolWanted_1 4 rfl) ?_
        refine P.isub (dq dtX0_poolWanted_1 5 rfl) ?_
        refine P.dup2 (dq dtX0_poolWanted_1 6 rfl) rfl rfl ?_
        refine P.iald (dq dtX0_poolWanted_1 7 rfl) (by repeat (first | assumption | exact up_s | rw [up_n (by first | assumption | (apply Ne.symm; assumption) | decide | omega)])) (by omega) (by omega) (by omega) ?_
        refine P.aload_n (dq dtX0_poolWanted_1 8 rfl) rfl ?_
        refine P.get flX0_34 (dq dtX0_poolWanted_1 9 rfl) (by repeat (first | assumption | exact up_s | rw [up_n (by first | assumption | (apply Ne.symm; assumption) | decide | omega)])) (by rfl) ?_
        refine P.aload_n (dq dtX0_poolWanted_1 10 rfl) rfl ?_
        refine P.get flX0_25 (dq dtX0_poolWanted_1 11 rfl) (by repeat (first | assumption | exact up_s | rw [up_n (by first | assumption | (apply Ne.symm; assumption) | decide | omega)])) (by rfl) ?_
        refine P.iald (dq dtX0_poolWanted_1 12 rfl) (by repeat (first | assumption | exact up_s | rw [up_n (by first | assumption | (apply Ne.symm; assumption) | decide | omega)])) (by omega) (by omega) (by omega) ?_
        refine P.iadd (dq dtX0_poolWanted_1 13 rfl) ?_
        refine P.iast (dq dtX0_poolWanted_1 14 rfl) (by repeat (first | assumption | exact up_s | rw [up_n (by first | assumption | (apply Ne.symm; assumption) | decide | omega)])) (by omega) (by omega) (by omega) ?_
        refine P.goto (t := 60) (dq dtX0_poolWanted_1 15 rfl) rfl ?_
        rw [A1, A2, A3, A4] at n_69
        have em : mrgA t z ((t0, z0) :: r) = mrgA (t0 + t) (z0 + z) r := if_pos n_69
        rw [e2]
        refine ih (t0 + t) (z0 + z) fi (upI si r.length (si r.length + si (r.length + 1))) (upI to r.length (to r.length + to (r.length + 1))) _ (by repeat (first | assumption | exact up_s | rw [up_n (by first | assumption | (apply Ne.symm; assumption) | decide | omega)])) (by repeat (first | assumption | exact up_s | rw [up_n (by first | assumption | (apply Ne.symm; assumption) | decide | omega)])) (by repeat (first | assumption | exact up_s | rw [up_n (by first | assumption | (apply Ne.symm; assumption) | decide | omega)])) (by repeat (first | assumption | exact up_s | rw [up_n (by first | assumption | (apply Ne.symm; assumption) | decide | omega)])) ⟨by rw [upI_s, R3, R1], by rw [upI_s, R4, R2], Rl_up r R5 (by omega) (by omega)⟩ ⟨F2, F3⟩ ⟨⟨by omega, by omega, by omega⟩, g7⟩ (by simp only [szs]; omega) (by repeat (first | assumption | exact Fr.rf | refine Fr.up ?_ (by simp))) (fun σ2 l fi2 si2 to2 hl => kk σ2 l fi2 si2 to2 (hl.trans em.symm))
      · refine P.if_eq (t := 134) (dq dtX0_poolWanted_0 42 rfl) rfl (by omega) (fun _ => ?_) (fun h9 => absurd h9 (by decide))
        first | (exfalso; omega) | (rw [A1, A2, A3, A4] at n_69; exact kk σ' ((t, z) :: (t0, z0) :: r) fi si to (show mrgA t z ((t0, z0) :: r) = (t, z) :: (t0, z0) :: r from if_neg n_69).symm (by rw [el]; exact hq) h3 h4 h5 hR0 hF0 hg0 hFr)
theorem lp_pools {x : CX} {d N : Nat} {σ : PH} {Q : PQ} {q : Nat} {p s pt pl : Int} {wa : Int → Int} (hp : 0 ≤ p ∧ p ≤ 8) (hd : 1 ≤ d) (hw : σ (q + 2) = pcI 0 8 wa) (hwb : ∀ i : Nat, (i : Int) < p → -90000 ≤ wa i ∧ wa i ≤ 90000) (kk : ∀ (σ2 : PH) (fi2 si2 to2 : Int → Int), σ2 q = fgO q p s (pool wa p.toNat).length pt pl → σ2 (q + 3) = pcI 0 8 fi2 → σ2 (q + 4) = pcI 0 8 si2 → σ2 (q + 5) = pcI 0 8 to2 → Rl to2 si2 (pool wa p.toNat) → RF fi2 (pool wa p.toNat) → GB 90000 (pool wa p.toNat) → Fr σ σ2 [q, q + 3, q + 4, q + 5] → P x d mX0_poolWanted Q (0, 0) 140 [some (vR q), some (vI p), none] [] N σ2) : ∀ (t k : Nat) (σ' : PH) (fi si to : Int → Int), (k : Int) ≤ p → p - k < t → σ' q = fgO q p s (pool wa k).length pt pl → σ' (q + 3) = pcI 0 8 fi → σ' (q + 4) = pcI 0 8 si → σ' (q + 5) = pcI 0 8 to → Rl to si (pool wa k) → RF fi (pool wa k) → Fr σ σ' [q, q + 3, q + 4, q + 5] → P x d mX0_poolWanted Q (0, 0) 7 [some (vR q), some (vI k), none] [] N σ' := by
  intro t
  induction t with
  | zero =>
    intro k σ' fi si to hk ht hq h3 h4 h5 hR hF hFr
    exfalso; omega
  | succ t ih =>
    intro k σ' fi si to hk ht hq h3 h4 h5 hR hF hFr
    have hz := pool_szs wa k
    have hg := pool_GB (B := 90000) (w := wa) k (fun i hi => hwb i (by omega))
    have hlen := GB_len _ hg
    have hw' : σ' (q + 2) = pcI 0 8 wa := (hFr (q + 2) (by simp)).trans hw
    refine P.iload_n (dq dtX0_poolWanted_0 5 rfl) rfl ?_
    refine P.aload_n (dq dtX0_poolWanted_0 6 rfl) rfl ?_
    refine P.get flX0_9 (dq dtX0_poolWanted_0 7 rfl) (by repeat (first | assumption | exact up_s | rw [up_n (by first | assumption | (apply Ne.symm; assumption) | decide | omega)])) (by rfl) ?_
    refine P.icmp_ge (t := 140) (dq dtX0_poolWanted_0 8 rfl) rfl (by omega) (by omega) (fun c_12 => ?_) (fun c_12 => ?_)
    · obtain rfl : k = p.toNat := by omega
      rw [show ((p.toNat : Nat) : Int) = p by omega]
      exact kk σ' fi si to hq h3 h4 h5 hR hF hg hFr
    · refine P.aload_n (dq dtX0_poolWanted_0 9 rfl) rfl ?_
      refine P.get flX0_28 (dq dtX0_poolWanted_0 10 rfl) (by repeat (first | assumption | exact up_s | rw [up_n (by first | assumption | (apply Ne.symm; assumption) | decide | omega)])) (by rfl) ?_
      refine P.aload_n (dq dtX0_poolWanted_0 11 rfl) rfl ?_
      refine P.get flX0_25 (dq dtX0_poolWanted_0 12 rfl) (by repeat (first | assumption | exact up_s | rw [up_n (by first | assumption | (apply Ne.symm; assumption) | decide | omega)])) (by rfl) ?_
      refine P.iload_n (dq dtX0_poolWanted_0 13 rfl) rfl ?_
      refine P.iast (dq dtX0_poolWanted_0 14 rfl) (by repeat (first | assumption | exact up_s | rw [up_n (by first | assumption | (apply Ne.symm; assumption) | decide | omega)])) (by omega) (by omega) (by omega) ?_
      refine P.aload_n (dq dtX0_poolWanted_0 15 rfl) rfl ?_
      refine P.get flX0_31 (dq dtX0_poolWanted_0 16 rfl) (by repeat (first | assumption | exact up_s | rw [up_n (by first | assumption | (apply Ne.symm; assumption) | decide | omega)])) (by rfl) ?_
      refine P.aload_n (dq dtX0_poolWanted_0 17 rfl) rfl ?_
      refine P.get flX0_25 (dq dtX0_poolWanted_0 18 rfl) (by repeat (first | assumption | exact up_s | rw [up_n (by first | assumption | (apply Ne.symm; assumption) | decide | omega)])) (by rfl) ?_
      refine P.iconst (dq dtX0_poolWanted_0 19 rfl) ?_
      refine P.iast (dq dtX0_poolWanted_0 20 rfl) (by repeat (first | assumption | exact up_s | rw [up_n (by first | assumption | (apply Ne.symm; assumption) | decide | omega)])) (by omega) (by omega) (by omega) ?_
      refine P.aload_n (dq dtX0_poolWanted_0 21 rfl) rfl ?_
      refine P.get flX0_34 (dq dtX0_poolWanted_0 22 rfl) (by repeat (first | assumption | exact up_s | rw [up_n (by first | assumption | (apply Ne.symm; assumption) | decide | omega)])) (by rfl) ?_
      refine P.aload_n (dq dtX0_poolWanted_0 23 rfl) rfl ?_
      refine P.get flX0_25 (dq dtX0_poolWanted_0 24 rfl) (by repeat (first | assumption | exact up_s | rw [up_n (by first | assumption | (apply Ne.symm; assumption) | decide | omega)])) (by rfl) ?_
      refine P.aload_n (dq dtX0_poolWanted_0 25 rfl) rfl ?_
      refine P.get flX0_22 (dq dtX0_poolWanted_0 26 rfl) (by repeat (first | assumption | exact up_s | rw [up_n (by first | assumption | (apply Ne.symm; assumption) | decide | omega)])) (by rfl) ?_
      refine P.iload_n (dq dtX0_poolWanted_0 27 rfl) rfl ?_
      refine P.iald (dq dtX0_poolWanted_0 28 rfl) (by repeat (first | assumption | exact up_s | rw [up_n (by first | assumption | (apply Ne.symm; assumption) | decide | omega)])) (by omega) (by omega) (by omega) ?_
      refine P.iast (dq dtX0_poolWanted_0 29 rfl) (by repeat (first | assumption | exact up_s | rw [up_n (by first | assumption | (apply Ne.symm; assumption) | decide | omega)])) (by omega) (by omega) (by omega) ?_
      refine P.aload_n (dq dtX0_poolWanted_0 30 rfl) rfl ?_
      refine P.dup (dq dtX0_poolWanted_0 31 rfl) rfl ?_
      refine P.get flX0_25 (dq dtX0_poolWanted_0 32 rfl) (by repeat (first | assumption | exact up_s | rw [up_n (by first | assumption | (apply Ne.symm; assumption) | decide | omega)])) (by rfl) ?_
      refine P.iconst (dq dtX0_poolWanted_0 33 rfl) ?_
      refine P.iadd (dq dtX0_poolWanted_0 34 rfl) ?_
      refine P.put flX0_25 rfl (dq dtX0_poolWanted_0 35 rfl) (by repeat (first | assumption | exact up_s | rw [up_n (by first | assumption | (apply Ne.symm; assumption) | decide | omega)])) (by exact Nat.le_of_ble_eq_true rfl) rfl rfl rfl rfl rfl ?_
      refine lp_merge (σ := σ) hp hd (pool wa k) (wa k) 1 (upI fi (pool wa k).length k) (upI si (pool wa k).length 1) (upI to (pool wa k).length (wa k)) _ (by repeat (first | assumption | exact up_s | rw [up_n (by first | assumption | (apply Ne.symm; assumption) | decide | omega)])) (by repeat (first | assumption | exact up_s | rw [up_n (by first | assumption | (apply Ne.symm; assumption) | decide | omega)])) (by repeat (first | assumption | exact up_s | rw [up_n (by first | assumption | (apply Ne.symm; assumption) | decide | omega)])) (by repeat (first | assumption | exact up_s | rw [up_n (by first | assumption | (apply Ne.symm; assumption) | decide | omega)])) ⟨upI_s, upI_s, Rl_up _ hR (by omega) (by omega)⟩ ⟨by rw [upI_s, hz], RF_up _ hF (by omega)⟩ ⟨⟨by omega, by have := hwb k (by omega); omega, by have := hwb k (by omega); omega⟩, hg⟩ (by simp only [szs]; omega) (by repeat (first | assumption | exact Fr.rf | refine Fr.up ?_ (by simp))) (fun σ2 l fi2 si2 to2 hl q1 q2 q3 q4 q5 q6 q7 q8 => ?_)
      subst hl
      refine P.iinc (dq dtX0_poolWanted_1 16 rfl) rfl (by decide) rfl rfl ?_
      refine P.goto (t := 7) (dq dtX0_poolWanted_1 17 rfl) rfl ?_
      exact ih (k + 1) σ2 fi2 si2 to2 (by omega) (by omega) q1 q2 q3 q4 q5 q6 q8
end
section
theorem lp_pof {x : CX} {d N : Nat} {σ : PH} {Q : PQ} {q : Nat} {p s pt pl : Int} {m : Nat} {fi si : Int → Int} (hq : σ q = fgO q p s m pt pl) (h3 : σ (q + 3) = pcI 0 8 fi) (h4 : σ (q + 4) = pcI 0 8 si) (hm : m ≤ 8) (hs1 : ∀ i : Int, 0 ≤ i → i < m → 1 ≤ si i) (hs2 : sumF si 0 m ≤ 8) (hfi : ∀ j : Nat, j < m → fi j = sumF si 0 j) {j : Nat} (hj : j < m) : ∀ (t : Nat) (k : Int) (pf : Int → Int) (σ' : PH), 0 ≤ k ∧ k ≤ si j → si j - k < t → σ' (q + 6) = pcI 0 8 pf → (∀ (j' : Nat) (k' : Int), j' < j → 0 ≤ k' → k' < si j' → pf (sumF si 0 j' + k') = j') → (∀ k' : Int, 0 ≤ k' → k' < k → pf (sumF si 0 j + k') = j) → Fr σ σ' [q + 6] → (∀ (σ2 : PH) (pf2 : Int → Int), σ2 (q + 6) = pcI 0 8 pf2 → (∀ (j' : Nat) (k' : Int), j' < j + 1 → 0 ≤ k' → k' < si j' → pf2 (sumF si 0 j' + k') = j') → Fr σ σ2 [q + 6] → P x d mX0_poolWanted Q (0, 0) 182 [some (vR q), some (vI j), none] [] N σ2) → P x d mX0_poolWanted Q (0, 0) 152 [some (vR q), some (vI j), some (vI k)] [] N σ' := by
  intro t
  induction t with
  | zero =>
    intro k pf σ' hk ht h6 hdn hcu hF kk
    exfalso; omega
  | succ t ih =>
    intro k pf σ' hk ht h6 hdn hcu hF kk
    have hq' : σ' q = fgO q p s m pt pl := (hF q (by simp)).trans hq
    have h3' : σ' (q + 3) = pcI 0 8 fi := (hF (q + 3) (by simp)).trans h3
    have h4' : σ' (q + 4) = pcI 0 8 si := (hF (q + 4) (by simp)).trans h4
    have hsb : 1 ≤ si j ∧ si j ≤ 8 := ⟨hs1 j (by omega) (by omega), by { have hmo := sumF_mono hs1 (j + 1) m (by omega) (by omega); have hsx : sumF si 0 (j + 1) = sumF si 0 j + si (0 + j) := rfl; rw [Int.zero_add] at hsx; have hm0 := sumF_mono hs1 0 j (by omega) (by omega); have hm00 : sumF si 0 0 = 0 := rfl; omega }⟩
    refine P.iload_n (dq dtX0_poolWanted_1 26 rfl) rfl ?_
    refine P.aload_n (dq dtX0_poolWanted_1 27 rfl) rfl ?_
    refine P.get flX0_31 (dq dtX0_poolWanted_1 28 rfl) (by repeat (first | assumption | exact up_s | rw [up_n (by first | assumption | (apply Ne.symm; assumption) | decide | omega)])) (by rfl) ?_
    refine P.iload_n (dq dtX0_poolWanted_1 29 rfl) rfl ?_
    refine P.iald (dq dtX0_poolWanted_1 30 rfl) (by repeat (first | assumption | exact up_s | rw [up_n (by first | assumption | (apply Ne.symm; assumption) | decide | omega)])) (by omega) (by omega) (by omega) ?_
    refine P.icmp_ge (t := 182) (dq dtX0_poolWanted_1 31 rfl) rfl (by omega) (by omega) (fun c_159 => ?_) (fun c_159 => ?_)
    · refine P.keep [0, 1] ?_
      refine kk σ' pf h6 (fun j' k' g1 g2 g3 => ?_) hF
      by_cases e : j' = j
      · subst e
        exact hcu k' g2 (by omega)
      · exact hdn j' k' (by omega) g2 g3
    · have hsj := hs1 j (by omega) (by omega)
      have hmo := sumF_mono hs1 (j + 1) m (by omega) (by omega)
      have hsx : sumF si 0 (j + 1) = sumF si 0 j + si (0 + j) := rfl
      rw [Int.zero_add] at hsx
      have hm0 := sumF_mono hs1 0 j (by omega) (by omega)
      have hm00 : sumF si 0 0 = 0 := rfl
      refine P.aload_n (dq dtX0_poolWanted_1 32 rfl) rfl ?_
      refine P.get flX0_37 (dq dtX0_poolWanted_1 33 rfl) (by repeat (first | assumption | exact up_s | rw [up_n (by first | assumption | (apply Ne.symm; assumption) | decide | omega)])) (by rfl) ?_
      refine P.aload_n (dq dtX0_poolWanted_1 34 rfl) rfl ?_
      refine P.get flX0_28 (dq dtX0_poolWanted_1 35 rfl) (by repeat (first | assumption | exact up_s | rw [up_n (by first | assumption | (apply Ne.symm; assumption) | decide | omega)])) (by rfl) ?_
      refine P.iload_n (dq dtX0_poolWanted_1 36 rfl) rfl ?_
      refine P.iald (dq dtX0_poolWanted_1 37 rfl) (by repeat (first | assumption | exact up_s | rw [up_n (by first | assumption | (apply Ne.symm; assumption) | decide | omega)])) (by omega) (by omega) (by omega) ?_
      rw [hfi j hj]
      refine P.iload_n (dq dtX0_poolWanted_1 38 rfl) rfl ?_
      refine P.iadd (dq dtX0_poolWanted_1 39 rfl) ?_
      refine P.iload_n (dq dtX0_poolWanted_1 40 rfl) rfl ?_
      refine P.iast (dq dtX0_poolWanted_1 41 rfl) (by repeat (first | assumption | exact up_s | rw [up_n (by first | assumption | (apply Ne.symm; assumption) | decide | omega)])) (by omega) (by omega) (by omega) ?_
      refine P.iinc (dq dtX0_poolWanted_1 42 rfl) rfl (by decide) rfl rfl ?_
      refine P.goto (t := 152) (dq dtX0_poolWanted_1 43 rfl) rfl ?_
      refine ih (k + 1) (upI pf (sumF si 0 j + k) j) _ (by omega) (by omega) (by repeat (first | assumption | exact up_s | rw [up_n (by first | assumption | (apply Ne.symm; assumption) | decide | omega)])) (fun j' k' g1 g2 g3 => ?_) (fun k' g2 g3 => ?_) (by repeat (first | assumption | exact Fr.rf | refine Fr.up ?_ (by simp))) kk
      · have q1 := sumF_mono hs1 (j' + 1) j (by omega) (by omega)
        have q2 : sumF si 0 (j' + 1) = sumF si 0 j' + si (0 + j') := rfl
        rw [Int.zero_add] at q2
        rw [upI_n (by omega)]
        exact hdn j' k' g1 g2 g3
      · by_cases e : k' = k
        · rw [e, upI_s]
        · rw [upI_n (by omega)]
          exact hcu k' g2 (by omega)
theorem lp_pof2 {x : CX} {d N : Nat} {σ : PH} {Q : PQ} {q : Nat} {p s pt pl : Int} {m : Nat} {fi si : Int → Int} (hq : σ q = fgO q p s m pt pl) (h3 : σ (q + 3) = pcI 0 8 fi) (h4 : σ (q + 4) = pcI 0 8 si) (hm : m ≤ 8) (hs1 : ∀ i : Int, 0 ≤ i → i < m → 1 ≤ si i) (hs2 : sumF si 0 m ≤ 8) (hfi : ∀ j : Nat, j < m → fi j = sumF si 0 j) (h : ∀ (σ2 : PH) (pf2 : Int → Int), σ2 (q + 6) = pcI 0 8 pf2 → PO pf2 si m → Fr σ σ2 [q + 6] → Q none σ2) : ∀ (t j : Nat) (pf : Int → Int) (σ' : PH), j ≤ m → m - j < t → σ' (q + 6) = pcI 0 8 pf → (∀ (j' : Nat) (k' : Int), j' < j → 0 ≤ k' → k' < si j' → pf (sumF si 0 j' + k') = j') → Fr σ σ' [q + 6] → P x d mX0_poolWanted Q (0, 0) 142 [some (vR q), some (vI j), none] [] N σ' := by
  intro t
  induction t with
  | zero =>
    intro j pf σ' hj ht h6 hdn hF
    exfalso; omega
  | succ t ih =>
    intro j pf σ' hj ht h6 hdn hF
    have hq' : σ' q = fgO q p s m pt pl := (hF q (by simp)).trans hq
    have hsb : j < m → 1 ≤ si j ∧ si j ≤ 8 := fun hjm => ⟨hs1 j (by omega) (by omega), by { have hmo := sumF_mono hs1 (j + 1) m (by omega) (by omega); have hsx : sumF si 0 (j + 1) = sumF si 0 j + si (0 + j) := rfl; rw [Int.zero_add] at hsx; have hm0 := sumF_mono hs1 0 j (by omega) (by omega); have hm00 : sumF si 0 0 = 0 := rfl; omega }⟩
    refine P.iload_n (dq dtX0_poolWanted_1 20 rfl) rfl ?_
    refine P.aload_n (dq dtX0_poolWanted_1 21 rfl) rfl ?_
    refine P.get flX0_25 (dq dtX0_poolWanted_1 22 rfl) (by repeat (first | assumption | exact up_s | rw [up_n (by first | assumption | (apply Ne.symm; assumption) | decide | omega)])) (by rfl) ?_
    refine P.icmp_ge (t := 188) (dq dtX0_poolWanted_1 23 rfl) rfl (by omega) (by omega) (fun c_147 => ?_) (fun c_147 => ?_)
    · refine P.vret (dq dtX0_poolWanted_1 46 rfl) rfl rfl rfl ?_
      obtain rfl : j = m := by omega
      exact h σ' pf h6 (fun j' k' g1 g2 g3 => hdn j' k' g1 g2 g3) hF
    · refine P.iconst (dq dtX0_poolWanted_1 24 rfl) ?_
      refine P.istore_n (dq dtX0_poolWanted_1 25 rfl) (by decide) rfl rfl ?_
      refine lp_pof hq h3 h4 hm hs1 hs2 hfi (by omega) 9 0 pf σ' (by have := hs1 j (by omega) (by omega); omega) (by omega) h6 hdn (fun k' g1 g2 => absurd g1 (by omega)) hF (fun σ2 pf2 q1 q2 q3 => ?_)
      refine P.iinc (dq dtX0_poolWanted_1 44 rfl) rfl (by decide) rfl rfl ?_
      refine P.goto (t := 142) (dq dtX0_poolWanted_1 45 rfl) rfl ?_
      exact ih (j + 1) pf2 σ2 (by omega) (by omega) q1 q2 q3
/-- Figures.poolWanted -/
theorem ct_X0_poolWanted {x : CM} {d N : Nat} {σ : PH} {Q : PQ} {q : Nat} {p s po pt pl : Int} {wa fi0 si0 to0 pf0 : Int → Int} (hq : σ q = fgO q p s po pt pl) (hp : 0 ≤ p ∧ p ≤ 8) (hd : 1 ≤ d) (hw : σ (q + 2) = pcI 0 8 wa) (h3 : σ (q + 3) = pcI 0 8 fi0) (h4 : σ (q + 4) = pcI 0 8 si0) (h5 : σ (q + 5) = pcI 0 8 to0) (h6 : σ (q + 6) = pcI 0 8 pf0) (hwb : ∀ i : Nat, (i : Int) < p → -90000 ≤ wa i ∧ wa i ≤ 90000) (h : ∀ (σ2 : PH) (fi2 si2 to2 pf2 : Int → Int), σ2 q = fgO q p s (pool wa p.toNat).length pt pl → σ2 (q + 3) = pcI 0 8 fi2 → σ2 (q + 4) = pcI 0 8 si2 → σ2 (q + 5) = pcI 0 8 to2 → σ2 (q + 6) = pcI 0 8 pf2 → Rl to2 si2 (pool wa p.toNat) → RF fi2 (pool wa p.toNat) → GB 90000 (pool wa p.toNat) → PO pf2 si2 (pool wa p.toNat).length → Fr σ σ2 [q, q + 3, q + 4, q + 5, q + 6] → Q none σ2) : Call x d 0 0 mX0_poolWanted [vR q] N σ Q := by
  refine Call.of mcX0_poolWanted (Nat.le_of_ble_eq_true rfl) (fun y hy => ?_)
  subst hy
  refine P.aload_n (dq dtX0_poolWanted_0 0 rfl) rfl ?_
  refine P.iconst (dq dtX0_poolWanted_0 1 rfl) ?_
  refine P.put flX0_25 rfl (dq dtX0_poolWanted_0 2 rfl) (by repeat (first | assumption | exact up_s | rw [up_n (by first | assumption | (apply Ne.symm; assumption) | decide | omega)])) (by exact Nat.le_of_ble_eq_true rfl) rfl rfl rfl rfl rfl ?_
  refine P.iconst (dq dtX0_poolWanted_0 3 rfl) ?_
  refine P.istore_n (dq dtX0_poolWanted_0 4 rfl) (by decide) rfl rfl ?_
  refine lp_pools (σ := σ) (s := s) (pt := pt) (pl := pl) hp hd hw hwb (fun σ2 fi2 si2 to2 q1 q2 q3 q4 q5 q6 q7 q8 => ?_) 9 0 _ fi0 si0 to0 (by omega) (by omega) up_s (by repeat (first | assumption | exact up_s | rw [up_n (by first | assumption | (apply Ne.symm; assumption) | decide | omega)])) (by repeat (first | assumption | exact up_s | rw [up_n (by first | assumption | (apply Ne.symm; assumption) | decide | omega)])) (by repeat (first | assumption | exact up_s | rw [up_n (by first | assumption | (apply Ne.symm; assumption) | decide | omega)])) trivial trivial (by repeat (first | assumption | exact Fr.rf | refine Fr.up ?_ (by simp)))
  have hs := Rl_sum _ q5
  rw [pool_szs] at hs
  have hlen := GB_len _ q7
  rw [pool_szs] at hlen
  have h6' : σ2 (q + 6) = pcI 0 8 pf0 := (q8 (q + 6) (by simp)).trans h6
  refine P.iconst (dq dtX0_poolWanted_1 18 rfl) ?_
  refine P.istore_n (dq dtX0_poolWanted_1 19 rfl) (by decide) rfl rfl ?_
  refine P.keep [0, 1] ?_
  exact lp_pof2 q1 q2 q3 (by omega) (fun i g1 g2 => (Rl_GB _ q5 q7 i g1 g2).1) (by omega) (RF_sum _ q5 q6) (fun σ3 pf3 z1 z2 z3 => h σ3 fi2 si2 to2 pf3 ((z3 q (by simp)).trans q1) ((z3 (q + 3) (by simp)).trans q2) ((z3 (q + 4) (by simp)).trans q3) ((z3 (q + 5) (by simp)).trans q4) z1 q5 q6 q7 z2 ((q8.wide (by simp)).trans (z3.wide (by simp)))) 9 0 pf0 σ2 (by omega) (by omega) h6' (fun j' k' g1 => absurd g1 (by omega)) Fr.rf
end
section
def gF (to si pf : Int → Int) : Int → Int := fun k => near (to (pf k)) (120 * si (pf k))
def PB (to si pf : Int → Int) (p : Int) : Prop := ∀ i : Int, 0 ≤ i → i < p → (0 ≤ pf i ∧ pf i < 8) ∧ (1 ≤ si (pf i) ∧ si (pf i) ≤ 8) ∧ -(90000 * si (pf i)) ≤ to (pf i) ∧ to (pf i) ≤ 90000 * si (pf i)
theorem gF_b {to si pf : Int → Int} {p i : Int} (h : PB to si pf p) (h0 : 0 ≤ i) (h1 : i < p) : -751 ≤ gF to si pf i ∧ gF to si pf i ≤ 751 := by
  obtain ⟨q1, q2, q3, q4⟩ := h i h0 h1
  have := near_b (a := to (pf i)) (c := 120 * si (pf i)) (b := 750) (by omega) (by omega) (by omega) (by omega)
  unfold gF
  omega
theorem PB_of {to si fi pf : Int → Int} {l : List (Int × Int)} {p : Nat} (h1 : Rl to si l) (h2 : GB 90000 l) (h3 : PO pf si l.length) (h4 : szs l = p) (hp : p ≤ 8) : PB to si pf p := by
  have hlen := GB_len l h2
  have hs := Rl_sum l h1
  have hs1 : ∀ i : Int, 0 ≤ i → i < (l.length : Nat) → 1 ≤ si i := fun i g1 g2 => (Rl_GB l h1 h2 i g1 g2).1
  intro i g0 g1
  obtain ⟨j, q1, q2, q3⟩ := in_pool l.length hs1 i g0 (by omega)
  have e := PO_at h3 q1 q2 q3
  obtain ⟨b1, b2, b3⟩ := Rl_GB l h1 h2 j (by omega) (by omega)
  have hmo := sumF_mono hs1 (j + 1) l.length (by omega) (by omega)
  have hsx : sumF si 0 (j + 1) = sumF si 0 j + si (0 + j) := rfl
  rw [Int.zero_add] at hsx
  have hm0 := sumF_mono hs1 0 j (by omega) (by omega)
  have hm00 : sumF si 0 0 = 0 := rfl
  rw [e]
  omega
theorem lp_makeCounts {x : CX} {d N : Nat} {σ : PH} {Q : PQ} {q : Nat} {p s po pt pl : Int} {si to pf : Int → Int} (hq : σ q = fgO q p s po pt pl) (hp : 0 ≤ p ∧ p ≤ 8) (hd : 2 ≤ d) (h4 : σ (q + 4) = pcI 0 8 si) (h5 : σ (q + 5) = pcI 0 8 to) (h6 : σ (q + 6) = pcI 0 8 pf) (hb : PB to si pf p) (h : ∀ (σ2 : PH) (co : Int → Int), σ2 (q + 7) = pcI 0 8 co → (∀ i : Nat, (i : Int) < p → co i = tabF (gF to si pf) i) → Fr σ σ2 [q + 7] → Q none σ2) : ∀ (t k : Nat) (co : Int → Int) (σ' : PH), (k : Int) ≤ p → p - k < t → σ' (q + 7) = pcI 0 8 co → (∀ i : Nat, i < k → co i = tabF (gF to si pf) i) → Fr σ σ' [q + 7] → P x d mX0_makeCounts Q (0, 0) 2 [some (vR q), some (vI k), none] [] N σ' := by
  intro t
  induction t with
  | zero =>
    intro k co σ' hk ht h7 hco hF
    exfalso; omega
  | succ t ih =>
    intro k co σ' hk ht h7 hco hF
    have hq' : σ' q = fgO q p s po pt pl := (hF q (by simp)).trans hq
    have h4' : σ' (q + 4) = pcI 0 8 si := (hF (q + 4) (by simp)).trans h4
    have h5' : σ' (q + 5) = pcI 0 8 to := (hF (q + 5) (by simp)).trans h5
    have h6' : σ' (q + 6) = pcI 0 8 pf := (hF (q + 6) (by simp)).trans h6
    refine P.iload_n (dq dtX0_makeCounts 2 rfl) rfl ?_
    refine P.aload_n (dq dtX0_makeCounts 3 rfl) rfl ?_
    refine P.get flX0_9 (dq dtX0_makeCounts 4 rfl) (by repeat (first | assumption | exact up_s | rw [up_n (by first | assumption | (apply Ne.symm; assumption) | decide | omega)])) (by rfl) ?_
    refine P.icmp_ge (t := 61) (dq dtX0_makeCounts 5 rfl) rfl (by omega) (by omega) (fun c_7 => ?_) (fun c_7 => ?_)
    · refine P.vret (dq dtX0_makeCounts 36 rfl) rfl rfl rfl ?_
      exact h σ' co h7 (fun i g1 => hco i (by omega)) hF
    · obtain ⟨b1, b2, b3, b4⟩ := hb k (by omega) (by omega)
      have hgb := gF_b hb (i := k) (by omega) (by omega)
      refine P.aload_n (dq dtX0_makeCounts 6 rfl) rfl ?_
      refine P.iload_n (dq dtX0_makeCounts 7 rfl) rfl ?_
      refine P.callV1 (M' := mX0_poolTotalAt) (d' := d - 1) mlX0_92 mcX0_poolTotalAt mvX0_poolTotalAt (dq dtX0_makeCounts 8 rfl) (by omega) (Nat.le_of_ble_eq_true rfl) (by repeat (first | assumption | exact up_s | rw [up_n (by first | assumption | (apply Ne.symm; assumption) | decide | omega)])) rfl ?_
      refine ct_X0_poolTotalAt (by repeat (first | assumption | exact up_s | rw [up_n (by first | assumption | (apply Ne.symm; assumption) | decide | omega)])) (by omega) (by omega) (by repeat (first | assumption | exact up_s | rw [up_n (by first | assumption | (apply Ne.symm; assumption) | decide | omega)])) (by repeat (first | assumption | exact up_s | rw [up_n (by first | assumption | (apply Ne.symm; assumption) | decide | omega)])) (by omega) (by omega) ?_
      refine P.bipush (dq dtX0_makeCounts 9 rfl) rfl ?_
      refine P.aload_n (dq dtX0_makeCounts 10 rfl) rfl ?_
      refine P.iload_n (dq dtX0_makeCounts 11 rfl) rfl ?_
      refine P.callV1 (M' := mX0_poolSizeAt) (d' := d - 1) mlX0_95 mcX0_poolSizeAt mvX0_poolSizeAt (dq dtX0_makeCounts 12 rfl) (by omega) (Nat.le_of_ble_eq_true rfl) (by repeat (first | assumption | exact up_s | rw [up_n (by first | assumption | (apply Ne.symm; assumption) | decide | omega)])) rfl ?_
      refine ct_X0_poolSizeAt (by repeat (first | assumption | exact up_s | rw [up_n (by first | assumption | (apply Ne.symm; assumption) | decide | omega)])) (by omega) (by omega) (by repeat (first | assumption | exact up_s | rw [up_n (by first | assumption | (apply Ne.symm; assumption) | decide | omega)])) (by repeat (first | assumption | exact up_s | rw [up_n (by first | assumption | (apply Ne.symm; assumption) | decide | omega)])) (by omega) (by omega) ?_
      refine P.imul (dq dtX0_makeCounts 13 rfl) ?_
      refine P.callSN2 (M' := mX6_nearestLesser) (d' := d - 1) nlX0_85 mcX6_nearestLesser msX6_nearestLesser (dq dtX0_makeCounts 14 rfl) (by omega) (Nat.le_of_ble_eq_true rfl) ?_
      refine ct_X6_nearestLesser (by omega) (by omega) (by omega) ?_
      rw [show near (to (pf k)) (120 * si (pf k)) = gF to si pf k from rfl]
      refine P.istore_n (dq dtX0_makeCounts 15 rfl) (by decide) rfl rfl ?_
      refine P.aload_n (dq dtX0_makeCounts 16 rfl) rfl ?_
      refine P.get flX0_40 (dq dtX0_makeCounts 17 rfl) (by repeat (first | assumption | exact up_s | rw [up_n (by first | assumption | (apply Ne.symm; assumption) | decide | omega)])) (by rfl) ?_
      refine P.iload_n (dq dtX0_makeCounts 18 rfl) rfl ?_
      refine P.iload_n (dq dtX0_makeCounts 19 rfl) rfl ?_
      refine P.if_ne (t := 40) (dq dtX0_makeCounts 20 rfl) rfl (by omega) (fun c_33 => ?_) (fun c_33 => ?_)
      · obtain ⟨u, rfl⟩ : ∃ u, k = u + 1 := ⟨k - 1, by omega⟩
        have hc1 := hco u (by omega)
        have hcb := tabF_b (g := gF to si pf) (lo := -751) (hi := 751) u (fun i hi => gF_b hb (by omega) (by omega))
        refine P.iload_n (dq dtX0_makeCounts 23 rfl) rfl ?_
        refine P.aload_n (dq dtX0_makeCounts 24 rfl) rfl ?_
        refine P.get flX0_40 (dq dtX0_makeCounts 25 rfl) (by repeat (first | assumption | exact up_s | rw [up_n (by first | assumption | (apply Ne.symm; assumption) | decide | omega)])) (by rfl) ?_
        refine P.iload_n (dq dtX0_makeCounts 26 rfl) rfl ?_
        refine P.iconst (dq dtX0_makeCounts 27 rfl) ?_
        refine P.isub (dq dtX0_makeCounts 28 rfl) ?_
        refine P.iald (dq dtX0_makeCounts 29 rfl) (by repeat (first | assumption | exact up_s | rw [up_n (by first | assumption | (apply Ne.symm; assumption) | decide | omega)])) (by omega) (by omega) (by omega) ?_
        rw [show ((u + 1 : Nat) : Int) - 1 = (u : Int) by omega, hc1]
        refine P.iconst (dq dtX0_makeCounts 30 rfl) ?_
        refine P.iadd (dq dtX0_makeCounts 31 rfl) ?_
        refine P.callS2 (M' := mJ9_max_7cf53) (d' := d - 1) mlX0_58 mcJ9_max_7cf53 msJ9_max_7cf53 (dq dtX0_makeCounts 32 rfl) (by omega) (Nat.le_of_ble_eq_true rfl) ?_
        refine ct_max (by omega) (by omega) (fun n_51 => ?_) (fun n_51 => ?_)
        · refine P.iast (dq dtX0_makeCounts 33 rfl) (by repeat (first | assumption | exact up_s | rw [up_n (by first | assumption | (apply Ne.symm; assumption) | decide | omega)])) (by omega) (by omega) (by omega) ?_
          refine P.iinc (dq dtX0_makeCounts 34 rfl) rfl (by decide) rfl rfl ?_
          refine P.goto (t := 2) (dq dtX0_makeCounts 35 rfl) rfl ?_
          first | (refine P.keep [0, 1] ?_; refine ih (k + 1) (upI co k (gF to si pf k)) _ (by omega) (by omega) (by repeat (first | assumption | exact up_s | rw [up_n (by first | assumption | (apply Ne.symm; assumption) | decide | omega)])) (fun i g1 => ?_) (by repeat (first | assumption | exact Fr.rf | refine Fr.up ?_ (by simp))); obtain rfl : k = 0 := (by omega); obtain rfl : i = 0 := (by omega); exact upI_s) | (refine P.keep [0, 1] ?_; refine ih (u + 1 + 1) (upI co ((u + 1 : Nat) : Int) (gF to si pf ((u + 1 : Nat) : Int))) _ (by omega) (by omega) (by repeat (first | assumption | exact up_s | rw [up_n (by first | assumption | (apply Ne.symm; assumption) | decide | omega)])) (fun i g1 => ?_) (by repeat (first | assumption | exact Fr.rf | refine Fr.up ?_ (by simp))); by_cases e : i = u + 1; (subst e; rw [upI_s]; exact (if_neg (by omega)).symm); (rw [upI_n (by omega)]; exact hco i (by omega))) | (refine P.keep [0, 1] ?_; refine ih (u + 1 + 1) (upI co ((u + 1 : Nat) : Int) (tabF (gF to si pf) u + 1)) _ (by omega) (by omega) (by repeat (first | assumption | exact up_s | rw [up_n (by first | assumption | (apply Ne.symm; assumption) | decide | omega)])) (fun i g1 => ?_) (by repeat (first | assumption | exact Fr.rf | refine Fr.up ?_ (by simp))); by_cases e : i = u + 1; (subst e; rw [upI_s]; exact (if_pos (by omega)).symm); (rw [upI_n (by omega)]; exact hco i (by omega)))
        · refine P.iast (dq dtX0_makeCounts 33 rfl) (by repeat (first | assumption | exact up_s | rw [up_n (by first | assumption | (apply Ne.symm; assumption) | decide | omega)])) (by omega) (by omega) (by omega) ?_
          refine P.iinc (dq dtX0_makeCounts 34 rfl) rfl (by decide) rfl rfl ?_
          refine P.goto (t := 2) (dq dtX0_makeCounts 35 rfl) rfl ?_
          first | (refine P.keep [0, 1] ?_; refine ih (k + 1) (upI co k (gF to si pf k)) _ (by omega) (by omega) (by repeat (first | assumption | exact up_s | rw [up_n (by first | assumption | (apply Ne.symm; assumption) | decide | omega)])) (fun i g1 => ?_) (by repeat (first | assumption | exact Fr.rf | refine Fr.up ?_ (by simp))); obtain rfl : k = 0 := (by omega); obtain rfl : i = 0 := (by omega); exact upI_s) | (refine P.keep [0, 1] ?_; refine ih (u + 1 + 1) (upI co ((u + 1 : Nat) : Int) (gF to si pf ((u + 1 : Nat) : Int))) _ (by omega) (by omega) (by repeat (first | assumption | exact up_s | rw [up_n (by first | assumption | (apply Ne.symm; assumption) | decide | omega)])) (fun i g1 => ?_) (by repeat (first | assumption | exact Fr.rf | refine Fr.up ?_ (by simp))); by_cases e : i = u + 1; (subst e; rw [upI_s]; exact (if_neg (by omega)).symm); (rw [upI_n (by omega)]; exact hco i (by omega))) | (refine P.keep [0, 1] ?_; refine ih (u + 1 + 1) (upI co ((u + 1 : Nat) : Int) (tabF (gF to si pf) u + 1)) _ (by omega) (by omega) (by repeat (first | assumption | exact up_s | rw [up_n (by first | assumption | (apply Ne.symm; assumption) | decide | omega)])) (fun i g1 => ?_) (by repeat (first | assumption | exact Fr.rf | refine Fr.up ?_ (by simp))); by_cases e : i = u + 1; (subst e; rw [upI_s]; exact (if_pos (by omega)).symm); (rw [upI_n (by omega)]; exact hco i (by omega)))
      · refine P.iload_n (dq dtX0_makeCounts 21 rfl) rfl ?_
        refine P.goto (t := 54) (dq dtX0_makeCounts 22 rfl) rfl ?_
        refine P.iast (dq dtX0_makeCounts 33 rfl) (by repeat (first | assumption | exact up_s | rw [up_n (by first | assumption | (apply Ne.symm; assumption) | decide | omega)])) (by omega) (by omega) (by omega) ?_
        refine P.iinc (dq dtX0_makeCounts 34 rfl) rfl (by decide) rfl rfl ?_
        refine P.goto (t := 2) (dq dtX0_makeCounts 35 rfl) rfl ?_
        first | (refine P.keep [0, 1] ?_; refine ih (k + 1) (upI co k (gF to si pf k)) _ (by omega) (by omega) (by repeat (first | assumption | exact up_s | rw [up_n (by first | assumption | (apply Ne.symm; assumption) | decide | omega)])) (fun i g1 => ?_) (by repeat (first | assumption | exact Fr.rf | refine Fr.up ?_ (by simp))); obtain rfl : k = 0 := (by omega); obtain rfl : i = 0 := (by omega); exact upI_s) | (refine P.keep [0, 1] ?_; refine ih (u + 1 + 1) (upI co ((u + 1 : Nat) : Int) (gF to si pf ((u + 1 : Nat) : Int))) _ (by omega) (by omega) (by repeat (first | assumption | exact up_s | rw [up_n (by first | assumption | (apply Ne.symm; assumption) | decide | omega)])) (fun i g1 => ?_) (by repeat (first | assumption | exact Fr.rf | refine Fr.up ?_ (by simp))); by_cases e : i = u + 1; (subst e; rw [upI_s]; exact (if_neg (by omega)).symm); (rw [upI_n (by omega)]; exact hco i (by omega))) | (refine P.keep [0, 1] ?_; refine ih (u + 1 + 1) (upI co ((u + 1 : Nat) : Int) (tabF (gF to si pf) u + 1)) _ (by omega) (by omega) (by repeat (first | assumption | exact up_s | rw [up_n (by first | assumption | (apply Ne.symm; assumption) | decide | omega)])) (fun i g1 => ?_) (by repeat (first | assumption | exact Fr.rf | refine Fr.up ?_ (by simp))); by_cases e : i = u + 1; (subst e; rw [upI_s]; exact (if_pos (by omega)).symm); (rw [upI_n (by omega)]; exact hco i (by omega)))
/-- Figures.makeCounts -/
theorem ct_X0_makeCounts {x : CM} {d N : Nat} {σ : PH} {Q : PQ} {q : Nat} {p s po pt pl : Int} {si to pf co0 : Int → Int} (hq : σ q = fgO q p s po pt pl) (hp : 0 ≤ p ∧ p ≤ 8) (hd : 2 ≤ d) (h4 : σ (q + 4) = pcI 0 8 si) (h5 : σ (q + 5) = pcI 0 8 to) (h6 : σ (q + 6) = pcI 0 8 pf) (h7 : σ (q + 7) = pcI 0 8 co0) (hb : PB to si pf p) (h : ∀ (σ2 : PH) (co : Int → Int), σ2 (q + 7) = pcI 0 8 co → (∀ i : Nat, (i : Int) < p → co i = tabF (gF to si pf) i) → Fr σ σ2 [q + 7] → Q none σ2) : Call x d 0 0 mX0_makeCounts [vR q] N σ Q := by
  refine Call.of mcX0_makeCounts (Nat.le_of_ble_eq_true rfl) (fun y hy => ?_)
  subst hy
  refine P.iconst (dq dtX0_makeCounts 0 rfl) ?_
  refine P.istore_n (dq dtX0_makeCounts 1 rfl) (by decide) rfl rfl ?_
  exact lp_makeCounts hq hp hd h4 h5 h6 hb h 9 0 co0 σ (by omega) (by omega) h7 (fun i g1 => absurd g1 (by omega)) Fr.rf
/-- the pools of what is measured -/
def pls (v : MsV) : List (Int × Int) := pool (wnt v) v.1.toNat
/-- Figures at q, reckoned from v: means, wanted, pools' first, size, sum, the pool of each, the table -/
abbrev FgV : Type := (Int → Int) × (Int → Int) × (Int → Int) × (Int → Int) × (Int → Int) × (Int → Int) × (Int → Int)
def FgR (v : MsV) (F : FgV) : Prop := (∀ i : Int, 0 ≤ i → i < 2 * v.1 → F.1 i = mm v i) ∧ (∀ i : Int, 0 ≤ i → i < v.1 → F.2.1 i = wnt v i) ∧ RF F.2.2.1 (pls v) ∧ Rl F.2.2.2.2.1 F.2.2.2.1 (pls v) ∧ PO F.2.2.2.2.2.1 F.2.2.2.1 (pls v).length ∧ (∀ i : Nat, (i : Int) < v.1 → F.2.2.2.2.2.2 i = tabF (gF F.2.2.2.2.1 F.2.2.2.1 F.2.2.2.2.2.1) i)
def plp (v : MsV) : Int := plT (mm v) v.1.toNat
def Fg (σ : PH) (q : Nat) (v : MsV) (F : FgV) : Prop := σ q = fgO q v.1 v.2.1 (pls v).length (plp v) (plc v.1 (plp v)) ∧ σ (q + 1) = pcI 0 16 F.1 ∧ σ (q + 2) = pcI 0 8 F.2.1 ∧ σ (q + 3) = pcI 0 8 F.2.2.1 ∧ σ (q + 4) = pcI 0 8 F.2.2.2.1 ∧ σ (q + 5) = pcI 0 8 F.2.2.2.2.1 ∧ σ (q + 6) = pcI 0 8 F.2.2.2.2.2.1 ∧ σ (q + 7) = pcI 0 8 F.2.2.2.2.2.2 ∧ FgR v F
/-- Figures at q, whatever they hold -/
def Fg0 (σ : PH) (q : Nat) : Prop := ∃ (p s po pt pl : Int) (F : FgV), σ q = fgO q p s po pt pl ∧ σ (q + 1) = pcI 0 16 F.1 ∧ σ (q + 2) = pcI 0 8 F.2.1 ∧ σ (q + 3) = pcI 0 8 F.2.2.1 ∧ σ (q + 4) = pcI 0 8 F.2.2.2.1 ∧ σ (q + 5) = pcI 0 8 F.2.2.2.2.1 ∧ σ (q + 6) = pcI 0 8 F.2.2.2.2.2.1 ∧ σ (q + 7) = pcI 0 8 F.2.2.2.2.2.2
theorem Fg.any {σ : PH} {q : Nat} {v : MsV} {F : FgV} (h : Fg σ q v F) : Fg0 σ q := ⟨_, _, _, _, _, F, h.1, h.2.1, h.2.2.1, h.2.2.2.1, h.2.2.2.2.1, h.2.2.2.2.2.1, h.2.2.2.2.2.2.1, h.2.2.2.2.2.2.2.1⟩
theorem pls_GB {v : MsV} (h : GMs v) : GB 90000 (pls v) := pool_GB _ (fun i hi => wnt_b h (by omega) (by have := h.1; omega))
theorem pls_sz {v : MsV} (h : GMs v) : szs (pls v) = v.1 := by
  unfold pls
  rw [pool_szs]
  have := h.1
  omega
theorem FgR.pb {v : MsV} {F : FgV} (hG : GMs v) (h : FgR v F) : PB F.2.2.2.2.1 F.2.2.2.1 F.2.2.2.2.2.1 v.1 := by
  have hv := hG.1
  have := PB_of (fi := F.1) (p := v.1.toNat) h.2.2.2.1 (pls_GB hG) h.2.2.2.2.1 (by rw [pls_sz hG]; omega) (by omega)
  rwa [show ((v.1.toNat : Nat) : Int) = v.1 by omega] at this
/-- Figures.reckon -/
theorem ct_X0_reckon {x : CM} {d N : Nat} {σ : PH} {Q : PQ} {q mq : Nat} {v : MsV} (hG : GMs v) (hM : Ms σ mq v) (h0 : Fg0 σ q) (hmq : mq + 2 < q ∨ q + 7 < mq) (hd : 4 ≤ d) (h : ∀ (σ2 : PH) (F : FgV), Fg σ2 q v F → Fr σ σ2 [q, q + 1, q + 2, q + 3, q + 4, q + 5, q + 6, q + 7] → Q none σ2) : Call x d 0 0 mX0_reckon [vR q, vR mq] N σ Q := by
  refine Call.of mcX0_reckon (Nat.le_of_ble_eq_true rfl) (fun y hy => ?_)
  subst hy
  obtain ⟨p, s, po, pt, pl, F, hq, h1, h2, h3, h4, h5, h6, h7⟩ := h0
  have hv1 := hG.1
  have hv2 := hG.2.1
  have hMq := hM.1
  have hne : mq ≠ q := by omega
  refine P.aload_n (dq dtX0_reckon 0 rfl) rfl ?_
  refine P.iconst (dq dtX0_reckon 1 rfl) ?_
  refine P.aload_n (dq dtX0_reckon 2 rfl) rfl ?_
  refine P.get flX0_49 (dq dtX0_reckon 3 rfl) (by repeat (first | assumption | exact up_s | rw [up_n (by first | assumption | (apply Ne.symm; assumption) | decide | omega)])) (by rfl) ?_
  refine P.bipush (dq dtX0_reckon 4 rfl) rfl ?_
  refine P.callS2 (M' := mJ9_min_7cf53) (d' := d - 1) mlX0_52 mcJ9_min_7cf53 msJ9_min_7cf53 (dq dtX0_reckon 5 rfl) (by omega) (Nat.le_of_ble_eq_true rfl) ?_
  refine ct_min_l (by omega) (by omega) (by omega) ?_
  refine P.callS2 (M' := mJ9_max_7cf53) (d' := d - 1) mlX0_58 mcJ9_max_7cf53 msJ9_max_7cf53 (dq dtX0_reckon 6 rfl) (by omega) (Nat.le_of_ble_eq_true rfl) ?_
  refine ct_max_r (by omega) (by omega) (by omega) ?_
  refine P.put flX0_9 rfl (dq dtX0_reckon 7 rfl) (by repeat (first | assumption | exact up_s | rw [up_n (by first | assumption | (apply Ne.symm; assumption) | decide | omega)])) (by exact Nat.le_of_ble_eq_true rfl) rfl rfl rfl rfl rfl ?_
  refine P.aload_n (dq dtX0_reckon 8 rfl) rfl ?_
  refine P.bipush (dq dtX0_reckon 9 rfl) rfl ?_
  refine P.aload_n (dq dtX0_reckon 10 rfl) rfl ?_
  refine P.get flX0_61 (dq dtX0_reckon 11 rfl) (by repeat (first | assumption | exact up_s | rw [up_n (by first | assumption | (apply Ne.symm; assumption) | decide | omega)])) (by rfl) ?_
  refine P.callS2 (M' := mJ9_max_7cf53) (d' := d - 1) mlX0_58 mcJ9_max_7cf53 msJ9_max_7cf53 (dq dtX0_reckon 12 rfl) (by omega) (Nat.le_of_ble_eq_true rfl) ?_
  refine ct_max_r (by omega) (by omega) (by omega) ?_
  refine P.put flX0_15 rfl (dq dtX0_reckon 13 rfl) (by repeat (first | assumption | exact up_s | rw [up_n (by first | assumption | (apply Ne.symm; assumption) | decide | omega)])) (by exact Nat.le_of_ble_eq_true rfl) rfl rfl rfl rfl rfl ?_
  rw [up_up]
  refine P.aload_n (dq dtX0_reckon 14 rfl) rfl ?_
  refine P.aload_n (dq dtX0_reckon 15 rfl) rfl ?_
  refine P.callV1 (M' := mX0_takeMeans) (d' := d - 1) mlX0_62 mcX0_takeMeans mvX0_takeMeans (dq dtX0_reckon 16 rfl) (by omega) (Nat.le_of_ble_eq_true rfl) (by repeat (first | assumption | exact up_s | rw [up_n (by first | assumption | (apply Ne.symm; assumption) | decide | omega)])) rfl ?_
  refine ct_X0_takeMeans (v := v) (po := po) (pt := pt) (pl := pl) (me0 := F.1) (wa0 := F.2.1) hG hmq (by omega) up_s (hM.fr (S := [q]) (by repeat (first | assumption | exact Fr.rf | refine Fr.up ?_ (by simp))) (by simp <;> omega) (by simp <;> omega) (by simp <;> omega)) (by repeat (first | assumption | exact up_s | rw [up_n (by first | assumption | (apply Ne.symm; assumption) | decide | omega)])) (by repeat (first | assumption | exact up_s | rw [up_n (by first | assumption | (apply Ne.symm; assumption) | decide | omega)])) (fun σ1 me wa a1 a2 a3 a4 a5 => ?_)
  have hq1 : σ1 q = fgO q v.1 v.2.1 po pt pl := (a5 q (by simp)).trans up_s
  refine P.aload_n (dq dtX0_reckon 17 rfl) rfl ?_
  refine P.callV0 (M' := mX0_takePlay) (d' := d - 1) mlX0_66 mcX0_takePlay mvX0_takePlay (dq dtX0_reckon 18 rfl) (by omega) (Nat.le_of_ble_eq_true rfl) (by repeat (first | assumption | exact up_s | rw [up_n (by first | assumption | (apply Ne.symm; assumption) | decide | omega)])) rfl ?_
  refine ct_X0_takePlay hq1 (by omega) (by omega) a1 (fun t g1 g2 => by rw [a3 t g1 g2]; exact mm_b hG g1 (by omega)) (fun σ2 b1 b2 => ?_)
  have eT : plT me v.1.toNat = plp v := plT_c _ (fun t g1 g2 => a3 t g1 (by omega))
  rw [eT] at b1
  refine P.aload_n (dq dtX0_reckon 19 rfl) rfl ?_
  refine P.callV0 (M' := mX0_poolWanted) (d' := d - 1) mlX0_69 mcX0_poolWanted mvX0_poolWanted (dq dtX0_reckon 20 rfl) (by omega) (Nat.le_of_ble_eq_true rfl) (by repeat (first | assumption | exact up_s | rw [up_n (by first | assumption | (apply Ne.symm; assumption) | decide | omega)])) rfl ?_
  refine ct_X0_poolWanted (wa := wa) (fi0 := F.2.2.1) (si0 := F.2.2.2.1) (to0 := F.2.2.2.2.1) (pf0 := F.2.2.2.2.2.1) b1 (by omega) (by omega) ((b2 (q + 2) (by simp)).trans a2) ((b2 (q + 3) (by simp)).trans ((a5 (q + 3) (by simp)).trans ((up_n (by omega)).trans h3))) ((b2 (q + 4) (by simp)).trans ((a5 (q + 4) (by simp)).trans ((up_n (by omega)).trans h4))) ((b2 (q + 5) (by simp)).trans ((a5 (q + 5) (by simp)).trans ((up_n (by omega)).trans h5))) ((b2 (q + 6) (by simp)).trans ((a5 (q + 6) (by simp)).trans ((up_n (by omega)).trans h6))) (fun i hi => by rw [a4 i (by omega) hi]; exact wnt_b hG (by omega) (by omega)) (fun σ3 fi si to pf c1 c2 c3 c4 c5 c6 c7 c8 c9 c10 => ?_)
  have eP : pool wa v.1.toNat = pls v := pool_c _ (fun i hi => a4 i (by omega) (by omega))
  rw [eP] at c1 c6 c7 c8 c9
  have hPB := PB_of (fi := fi) (p := v.1.toNat) c6 c8 c9 (by rw [pls_sz hG]; omega) (by omega)
  rw [show ((v.1.toNat : Nat) : Int) = v.1 by omega] at hPB
  refine P.aload_n (dq dtX0_reckon 21 rfl) rfl ?_
  refine P.callV0 (M' := mX0_makeCounts) (d' := d - 1) mlX0_72 mcX0_makeCounts mvX0_makeCounts (dq dtX0_reckon 22 rfl) (by omega) (Nat.le_of_ble_eq_true rfl) (by repeat (first | assumption | exact up_s | rw [up_n (by first | assumption | (apply Ne.symm; assumption) | decide | omega)])) rfl ?_
  refine ct_X0_makeCounts (co0 := F.2.2.2.2.2.2) c1 (by omega) (by omega) c3 c4 c5 ((c10 (q + 7) (by simp)).trans ((b2 (q + 7) (by simp)).trans ((a5 (q + 7) (by simp)).trans ((up_n (by omega)).trans h7)))) hPB (fun σ4 co d1 d2 d3 => ?_)
  refine P.vret (dq dtX0_reckon 23 rfl) rfl rfl rfl ?_
  exact h σ4 (me, wa, fi, si, to, pf, co) ⟨(d3 q (by simp)).trans c1, (d3 (q + 1) (by simp)).trans ((c10 (q + 1) (by simp)).trans ((b2 (q + 1) (by simp)).trans a1)), (d3 (q + 2) (by simp)).trans ((c10 (q + 2) (by simp)).trans ((b2 (q + 2) (by simp)).trans a2)), (d3 (q + 3) (by simp)).trans c2, (d3 (q + 4) (by simp)).trans c3, (d3 (q + 5) (by simp)).trans c4, (d3 (q + 6) (by simp)).trans c5, d1, a3, a4, c7, c6, c9, d2⟩ ((((Fr.wide (S := [q]) (by repeat (first | assumption | exact Fr.rf | refine Fr.up ?_ (by simp))) (by simp)).trans (a5.wide (by simp))).trans (b2.wide (by simp))).trans (c10.wide (by simp)) |>.trans (d3.wide (by simp)))
end
section
/-! rows as lists; the sheet; counts and places -/
def Rp (f : Int → Int) (l : List Int) : Prop := ∀ i : Nat, i < l.length → f i = l.getD i 0
theorem Rp_nil {f : Int → Int} : Rp f [] := fun i h => absurd h (by simp)
theorem Rp_put {f : Int → Int} {l : List Int} {c : Int} (h : Rp f l) : Rp (upI f l.length c) (l ++ [c]) := by
  intro i hi
  simp only [List.length_append, List.length_singleton] at hi
  by_cases e : i = l.length
  · subst e
    rw [upI_s]
    simp
  · rw [upI_n (by omega), h i (by omega)]
    simp only [List.getD_eq_getElem?_getD]
    rw [List.getElem?_append_left (by omega)]
def digs (v : Int) : List Int := if v < 10 then [48 + v] else if v < 100 then [48 + v / 10, 48 + v % 10] else if v < 1000 then [48 + v / 100, 48 + v / 10 % 10, 48 + v % 10] else [48 + v / 1000, 48 + v / 100 % 10, 48 + v / 10 % 10, 48 + v % 10]
theorem digs_len (v : Int) : 1 ≤ (digs v).length ∧ (digs v).length ≤ 4 := by
  unfold digs
  split
  · simp
  · split
    · simp
    · split <;> simp
def offL (co : Int → Int) (s k : Int) : List Int := digs k ++ [58] ++ [if co k - k * s < 0 then 45 else 43] ++ digs (if 0 ≤ co k - k * s then co k - k * s else -(co k - k * s)) ++ [59]
def shL (co : Int → Int) (s : Int) : Nat → List Int
  | 0 => []
  | k + 1 => shL co s k ++ offL co s k
def shA (co : Int → Int) (s p pl : Int) : List Int := shL co s p.toNat ++ [112] ++ digs pl
theorem offL_len (co : Int → Int) (s k : Int) : (offL co s k).length ≤ 11 := by
  unfold offL
  have h1 := digs_len k
  have h2 := digs_len (if 0 ≤ co k - k * s then co k - k * s else -(co k - k * s))
  simp only [List.length_append, List.length_singleton]
  omega
theorem offL_len2 (co : Int → Int) (s k : Int) (hk : k < 10) : (offL co s k).length ≤ 8 := by
  unfold offL
  have h1 : (digs k).length = 1 := by unfold digs; rw [if_pos hk]; rfl
  have h2 := digs_len (if 0 ≤ co k - k * s then co k - k * s else -(co k - k * s))
  simp only [List.length_append, List.length_singleton]
  omega
theorem shL_len (co : Int → Int) (s : Int) : ∀ k : Nat, k ≤ 10 → (shL co s k).length ≤ 8 * k := by
  intro k
  induction k with
  | zero => intro _; simp [shL]
  | succ k ih =>
    intro h
    have := offL_len2 co s k (by omega)
    have := ih (by omega)
    show (shL co s k ++ offL co s k).length ≤ _
    rw [List.length_append]
    omega
def cntF (co : Int → Int) (p s x : Int) : Int := co (min (x / s) (p - 2)) + ((co (min (x / s) (p - 2) + 1) - co (min (x / s) (p - 2))) * (x - min (x / s) (p - 2) * s)) / s
/-- the place of the greatest, the first of like ones; and it -/
def wst (a : Int → Int) : Nat → Int × Int
  | 0 => (0, -1)
  | k + 1 => if (wst a k).2 < a k then ((k : Int), a k) else wst a k
def absI (z : Int) : Int := if 0 ≤ z then z else -z
/-- MISS, sixty times, of a point and way -/
def misF (me co : Int → Int) (s pl k w : Int) : Int := me (k * 2 + w) + 60 * (co k - k * s + if w = 1 then pl else 0)
def plF (co : Int → Int) (s y : Int) : Nat → Int → Int
  | 0, _ => -100000
  | t + 1, k => if y ≤ co (k + 1) then k * s - (-(y - co k) * s) / (co (k + 1) - co k) else plF co s y t (k + 1)
def srF (f : Int → Int) (y : Int) : Nat → Int → Int
  | 0, _ => -100000
  | t + 1, x => if y ≤ f x then x else srF f y t (x + 1)
/-- a table: bounds, rising -/
def TB (co : Int → Int) (p : Int) : Prop := (∀ k : Int, 0 ≤ k → k < p → -751 ≤ co k ∧ co k ≤ 760) ∧ ∀ k : Int, 0 ≤ k → k + 1 < p → co k + 1 ≤ co (k + 1)
theorem FgR.tb {v : MsV} {F : FgV} (hG : GMs v) (h : FgR v F) : TB F.2.2.2.2.2.2 v.1 := by
  have hpb := h.pb hG
  have hv := hG.1
  have hco := h.2.2.2.2.2
  refine ⟨fun k h0 h1 => ?_, fun k h0 h1 => ?_⟩
  · obtain ⟨n, rfl⟩ : ∃ n : Nat, k = n := ⟨k.toNat, by omega⟩
    rw [hco n h1]
    have := tabF_b (g := gF F.2.2.2.2.1 F.2.2.2.1 F.2.2.2.2.2.1) (lo := -751) (hi := 751) n (fun i hi => gF_b hpb (by omega) (by omega))
    omega
  · obtain ⟨n, rfl⟩ : ∃ n : Nat, k = n := ⟨k.toNat, by omega⟩
    have e1 := hco n (by omega)
    have e2 := hco (n + 1) (by omega)
    rw [e1, show ((n : Int) + 1) = ((n + 1 : Nat) : Int) by omega, e2]
    show tabF _ n + 1 ≤ (if _ ≤ tabF _ n then tabF _ n + 1 else _)
    split <;> omega
theorem div_bd {x s p : Int} (h0 : 0 ≤ x) (h1 : x ≤ (p - 1) * s) (hs : 0 < s) (hp : 2 ≤ p) : 0 ≤ min (x / s) (p - 2) ∧ min (x / s) (p - 2) ≤ p - 2 ∧ 0 ≤ x - min (x / s) (p - 2) * s ∧ x - min (x / s) (p - 2) * s ≤ s := by
  have e0 := Int.ediv_nonneg h0 (by omega : 0 ≤ s)
  have e1 := Int.mul_ediv_add_emod x s
  have e2 := Int.emod_nonneg x (by omega : s ≠ 0)
  have e3 := Int.emod_lt_of_pos x hs
  rw [Int.mul_comm] at e1
  rcases Int.le_total (x / s) (p - 2) with h | h
  · rw [Int.min_eq_left h]
    omega
  · rw [Int.min_eq_right h]
    have e4 : (p - 2) * s ≤ x / s * s := Int.mul_le_mul_of_nonneg_right h (by omega)
    have e5 : (p - 1) * s = (p - 2) * s + s := by
      rw [show p - 1 = (p - 2) + 1 by omega, Int.add_mul, Int.one_mul]
    omega
end
section
/-- a row of letters at q, its array behind it -/
def Ls (σ : PH) (q r : Nat) (n : Int) (f : Int → Int) : Prop := σ q = pcO 1 [vR (q + 1), vI n] ∧ σ (q + 1) = pcI 0 r f
theorem Ls.fr {σ σ' : PH} {q r : Nat} {n : Int} {f : Int → Int} {S : List Nat} (h : Ls σ q r n f) (hF : Fr σ σ' S) (h0 : q ∉ S) (h1 : q + 1 ∉ S) : Ls σ' q r n f := ⟨(hF _ h0).trans h.1, (hF _ h1).trans h.2⟩
theorem ct_putL {x : CM} {d N : Nat} {σ : PH} {Q : PQ} {q r : Nat} {f : Int → Int} {l : List Int} {c : Int} (hL : Ls σ q r l.length f) (hR : Rp f l) (hr : l.length < r ∧ r < 1000) (hd : 2 ≤ d) (h : ∀ (σ' : PH) (f' : Int → Int), Ls σ' q r (l ++ [c]).length f' → Rp f' (l ++ [c]) → Fr σ σ' [q, q + 1] → Q none σ') : Call x d 0 0 mX1_put [vR q, vI c] N σ Q := by
  refine ct_X1_put hL.1 hL.2 (by omega) hd (by omega) ?_
  refine h _ (upI f l.length c) ⟨?_, ?_⟩ (Rp_put hR) (by repeat (first | assumption | exact Fr.rf | refine Fr.up ?_ (by simp)))
  · rw [up_s]
    simp
  · rw [up_n (by omega)]
    exact up_s
theorem pn_h1 {x : CX} {d N : Nat} {σ : PH} {Q : PQ} {q : Nat} {v u : Int} (hv : 0 ≤ v ∧ v < 10000) (hu : 1 ≤ u ∧ u ≤ 10000) (k1 : u ≤ v / 10 → P x d mX1_putNumber Q (0, 0) 2 [some (vR q), some (vI v), some (vI (u * 10))] [] N σ) (k2 : v / 10 < u → P x d mX1_putNumber Q (0, 0) 18 [some (vR q), some (vI v), some (vI u)] [] N σ) : P x d mX1_putNumber Q (0, 0) 2 [some (vR q), some (vI v), some (vI u)] [] N σ := by
  have e : v.tdiv 10 = v / 10 := Int.tdiv_eq_ediv_of_nonneg (by omega)
  refine P.iload_n (dq dtX1_putNumber 2 rfl) rfl ?_
  refine P.iload_n (dq dtX1_putNumber 3 rfl) rfl ?_
  refine P.bipush (dq dtX1_putNumber 4 rfl) rfl ?_
  refine P.idiv (dq dtX1_putNumber 5 rfl) (by omega) (by omega) (by omega) ?_
  refine P.icmp_gt (t := 18) (dq dtX1_putNumber 6 rfl) rfl (by omega) (by omega) (fun c_7 => ?_) (fun c_7 => ?_)
  · exact k2 (by omega)
  · refine P.iload_n (dq dtX1_putNumber 7 rfl) rfl ?_
    refine P.bipush (dq dtX1_putNumber 8 rfl) rfl ?_
    refine P.imul (dq dtX1_putNumber 9 rfl) ?_
    refine P.istore_n (dq dtX1_putNumber 10 rfl) (by decide) rfl rfl ?_
    refine P.goto (t := 2) (dq dtX1_putNumber 11 rfl) rfl ?_
    exact k1 (by omega)
theorem pn_h2 {x : CX} {d N : Nat} {σ : PH} {Q : PQ} {q r : Nat} {f : Int → Int} {l : List Int} {v : Int} {u : Int} (hL : Ls σ q r l.length f) (hR : Rp f l) (hr : l.length < r ∧ r < 1000) (hd : 3 ≤ d) (hv : 0 ≤ v ∧ v < 10000) (hu : 1 ≤ u ∧ u ≤ 10000) (kk : ∀ (σ' : PH) (f' : Int → Int), Ls σ' q r (l ++ [48 + v / u % 10]).length f' → Rp f' (l ++ [48 + v / u % 10]) → Fr σ σ' [q, q + 1] → P x d mX1_putNumber Q (0, 0) 18 [some (vR q), some (vI v), some (vI (u / 10))] [] N σ') : P x d mX1_putNumber Q (0, 0) 18 [some (vR q), some (vI v), some (vI u)] [] N σ := by
  have hLq := hL.1
  have e1 : v.tdiv u = v / u := Int.tdiv_eq_ediv_of_nonneg (by omega)
  have e2 := Int.ediv_nonneg (show 0 ≤ v by omega) (show 0 ≤ u by omega)
  have e4 : (v / u).tmod 10 = v / u % 10 := Int.tmod_eq_emod_of_nonneg e2
  have e3 : u.tdiv 10 = u / 10 := Int.tdiv_eq_ediv_of_nonneg (by omega)
  have e5 : v / u ≤ v := Int.ediv_le_self _ (by omega)
  refine P.iload_n (dq dtX1_putNumber 12 rfl) rfl ?_
  refine P.if_le (t := 43) (dq dtX1_putNumber 13 rfl) rfl (by omega) (fun c_19 => ?_) (fun c_19 => ?_)
  · exfalso; omega
  · refine P.aload_n (dq dtX1_putNumber 14 rfl) rfl ?_
    refine P.bipush (dq dtX1_putNumber 15 rfl) rfl ?_
    refine P.iload_n (dq dtX1_putNumber 16 rfl) rfl ?_
    refine P.iload_n (dq dtX1_putNumber 17 rfl) rfl ?_
    refine P.idiv (dq dtX1_putNumber 18 rfl) (by omega) (by omega) (by omega) ?_
    rw [e1]
    refine P.bipush (dq dtX1_putNumber 19 rfl) rfl ?_
    refine P.irem (dq dtX1_putNumber 20 rfl) (by omega) (by omega) (by omega) ?_
    rw [e4]
    refine P.iadd (dq dtX1_putNumber 21 rfl) ?_
    refine P.callV1 (M' := mX1_put) (d' := d - 1) mlX1_37 mcX1_put mvX1_put (dq dtX1_putNumber 22 rfl) (by omega) (Nat.le_of_ble_eq_true rfl) (by repeat (first | assumption | exact up_s | rw [up_n (by first | assumption | (apply Ne.symm; assumption) | decide | omega)])) rfl ?_
    refine ct_putL hL hR hr (by omega) (fun σ' f' q1 q2 q3 => ?_)
    refine P.iload_n (dq dtX1_putNumber 23 rfl) rfl ?_
    refine P.bipush (dq dtX1_putNumber 24 rfl) rfl ?_
    refine P.idiv (dq dtX1_putNumber 25 rfl) (by omega) (by omega) (by omega) ?_
    rw [e3]
    refine P.istore_n (dq dtX1_putNumber 26 rfl) (by decide) rfl rfl ?_
    refine P.goto (t := 18) (dq dtX1_putNumber 27 rfl) rfl ?_
    exact kk σ' f' q1 q2 q3
theorem pn_h3 {x : CX} {d N : Nat} {σ : PH} {Q : PQ} {q : Nat} {v : Int} (h : Q none σ) : P x d mX1_putNumber Q (0, 0) 18 [some (vR q), some (vI v), some (vI 0)] [] N σ := by
  refine P.iload_n (dq dtX1_putNumber 12 rfl) rfl ?_
  refine P.if_le (t := 43) (dq dtX1_putNumber 13 rfl) rfl (by omega) (fun c_19 => ?_) (fun c_19 => ?_)
  · refine P.vret (dq dtX1_putNumber 28 rfl) rfl rfl rfl ?_
    exact h
  · exfalso; omega
theorem ct_X1_putNumber {x : CM} {d N : Nat} {σ : PH} {Q : PQ} {q r : Nat} {f : Int → Int} {l : List Int} {v : Int} (hL : Ls σ q r l.length f) (hR : Rp f l) (hr : l.length + 4 ≤ r ∧ r < 1000) (hd : 3 ≤ d) (hv : 0 ≤ v ∧ v < 10000) (h : ∀ (σ' : PH) (f' : Int → Int), Ls σ' q r (l ++ digs v).length f' → Rp f' (l ++ digs v) → Fr σ σ' [q, q + 1] → Q none σ') : Call x d 0 0 mX1_putNumber [vR q, vI v] N σ Q := by
  refine Call.of mcX1_putNumber (Nat.le_of_ble_eq_true rfl) (fun y hy => ?_)
  subst hy
  refine P.iconst (dq dtX1_putNumber 0 rfl) ?_
  refine P.istore_n (dq dtX1_putNumber 1 rfl) (by decide) rfl rfl ?_
  rcases Int.lt_or_le v 10 with hc | hc
  · show P y d mX1_putNumber Q (0, 0) 2 [some (vR q), some (vI v), some (vI 1)] [] N σ
    refine pn_h1 hv (by omega) (fun h9 => absurd h9 (by omega)) (fun _ => ?_)
    refine pn_h2 hL hR (by first | omega | (simp only [List.length_append, List.length_singleton]; omega)) hd hv (by omega) (fun σ1 f1 a1 b1 c1 => ?_)
    rw [show (1 : Int) / 10 = 0 by decide]
    refine pn_h3 (h σ1 f1 ?_ ?_ ?_)
    · have el : digs v = [48 + v / 1 % 10] := by
        unfold digs
        rw [if_pos (show v < 10 by omega)]
        rw [show 48 + v / 1 % 10 = 48 + v by omega]
      rw [el]
      simpa using a1
    · have el : digs v = [48 + v / 1 % 10] := by
        unfold digs
        rw [if_pos (show v < 10 by omega)]
        rw [show 48 + v / 1 % 10 = 48 + v by omega]
      rw [el]
      simpa using b1
    · exact c1
  · rcases Int.lt_or_le v 100 with hc2 | hc2
    · show P y d mX1_putNumber Q (0, 0) 2 [some (vR q), some (vI v), some (vI 1)] [] N σ
      refine pn_h1 hv (by omega) (fun _ => ?_) (fun h9 => absurd h9 (by omega))
      rw [show (1 : Int) * 10 = 10 by omega]
      refine pn_h1 hv (by omega) (fun h9 => absurd h9 (by omega)) (fun _ => ?_)
      refine pn_h2 hL hR (by first | omega | (simp only [List.length_append, List.length_singleton]; omega)) hd hv (by omega) (fun σ1 f1 a1 b1 c1 => ?_)
      rw [show (10 : Int) / 10 = 1 by decide]
      refine pn_h2 a1 b1 (by first | omega | (simp only [List.length_append, List.length_singleton]; omega)) hd hv (by omega) (fun σ2 f2 a2 b2 c2 => ?_)
      rw [show (1 : Int) / 10 = 0 by decide]
      refine pn_h3 (h σ2 f2 ?_ ?_ ?_)
      · have el : digs v = [48 + v / 10 % 10, 48 + v / 1 % 10] := by
          unfold digs
          rw [if_neg (show ¬ v < 10 by omega), if_pos (show v < 100 by omega)]
          rw [show 48 + v / 10 % 10 = 48 + v / 10 by omega, show 48 + v / 1 % 10 = 48 + v % 10 by omega]
        rw [el]
        simpa using a2
      · have el : digs v = [48 + v / 10 % 10, 48 + v / 1 % 10] := by
          unfold digs
          rw [if_neg (show ¬ v < 10 by omega), if_pos (show v < 100 by omega)]
          rw [show 48 + v / 10 % 10 = 48 + v / 10 by omega, show 48 + v / 1 % 10 = 48 + v % 10 by omega]
        rw [el]
        simpa using b2
      · exact (c1).trans c2
    · rcases Int.lt_or_le v 1000 with hc3 | hc3
      · show P y d mX1_putNumber Q (0, 0) 2 [some (vR q), some (vI v), some (vI 1)] [] N σ
        refine pn_h1 hv (by omega) (fun _ => ?_) (fun h9 => absurd h9 (by omega))
        rw [show (1 : Int) * 10 = 10 by omega]
        refine pn_h1 hv (by omega) (fun _ => ?_) (fun h9 => absurd h9 (by omega))
        rw [show (10 : Int) * 10 = 100 by omega]
        refine pn_h1 hv (by omega) (fun h9 => absurd h9 (by omega)) (fun _ => ?_)
        refine pn_h2 hL hR (by first | omega | (simp only [List.length_append, List.length_singleton]; omega)) hd hv (by omega) (fun σ1 f1 a1 b1 c1 => ?_)
        rw [show (100 : Int) / 10 = 10 by decide]
        refine pn_h2 a1 b1 (by first | omega | (simp only [List.length_append, List.length_singleton]; omega)) hd hv (by omega) (fun σ2 f2 a2 b2 c2 => ?_)
        rw [show (10 : Int) / 10 = 1 by decide]
        refine pn_h2 a2 b2 (by first | omega | (simp only [List.length_append, List.length_singleton]; omega)) hd hv (by omega) (fun σ3 f3 a3 b3 c3 => ?_)
        rw [show (1 : Int) / 10 = 0 by decide]
        refine pn_h3 (h σ3 f3 ?_ ?_ ?_)
        · have el : digs v = [48 + v / 100 % 10, 48 + v / 10 % 10, 48 + v / 1 % 10] := by
            unfold digs
            rw [if_neg (show ¬ v < 10 by omega), if_neg (show ¬ v < 100 by omega), if_pos (show v < 1000 by omega)]
            rw [show 48 + v / 100 % 10 = 48 + v / 100 by omega, show 48 + v / 1 % 10 = 48 + v % 10 by omega]
          rw [el]
          simpa using a3
        · have el : digs v = [48 + v / 100 % 10, 48 + v / 10 % 10, 48 + v / 1 % 10] := by
            unfold digs
            rw [if_neg (show ¬ v < 10 by omega), if_neg (show ¬ v < 100 by omega), if_pos (show v < 1000 by omega)]
            rw [show 48 + v / 100 % 10 = 48 + v / 100 by omega, show 48 + v / 1 % 10 = 48 + v % 10 by omega]
          rw [el]
          simpa using b3
        · exact ((c1).trans c2).trans c3
      · show P y d mX1_putNumber Q (0, 0) 2 [some (vR q), some (vI v), some (vI 1)] [] N σ
        refine pn_h1 hv (by omega) (fun _ => ?_) (fun h9 => absurd h9 (by omega))
        rw [show (1 : Int) * 10 = 10 by omega]
        refine pn_h1 hv (by omega) (fun _ => ?_) (fun h9 => absurd h9 (by omega))
        rw [show (10 : Int) * 10 = 100 by omega]
        refine pn_h1 hv (by omega) (fun _ => ?_) (fun h9 => absurd h9 (by omega))
        rw [show (100 : Int) * 10 = 1000 by omega]
        refine pn_h1 hv (by omega) (fun h9 => absurd h9 (by omega)) (fun _ => ?_)
        refine pn_h2 hL hR (by first | omega | (simp only [List.length_append, List.length_singleton]; omega)) hd hv (by omega) (fun σ1 f1 a1 b1 c1 => ?_)
        rw [show (1000 : Int) / 10 = 100 by decide]
        refine pn_h2 a1 b1 (by first | omega | (simp only [List.length_append, List.length_singleton]; omega)) hd hv (by omega) (fun σ2 f2 a2 b2 c2 => ?_)
        rw [show (100 : Int) / 10 = 10 by decide]
        refine pn_h2 a2 b2 (by first | omega | (simp only [List.length_append, List.length_singleton]; omega)) hd hv (by omega) (fun σ3 f3 a3 b3 c3 => ?_)
        rw [show (10 : Int) / 10 = 1 by decide]
        refine pn_h2 a3 b3 (by first | omega | (simp only [List.length_append, List.length_singleton]; omega)) hd hv (by omega) (fun σ4 f4 a4 b4 c4 => ?_)
        rw [show (1 : Int) / 10 = 0 by decide]
        refine pn_h3 (h σ4 f4 ?_ ?_ ?_)
        · have el : digs v = [48 + v / 1000 % 10, 48 + v / 100 % 10, 48 + v / 10 % 10, 48 + v / 1 % 10] := by
            unfold digs
            rw [if_neg (show ¬ v < 10 by omega), if_neg (show ¬ v < 100 by omega), if_neg (show ¬ v < 1000 by omega)]
            rw [show 48 + v / 1000 % 10 = 48 + v / 1000 by omega, show 48 + v / 1 % 10 = 48 + v % 10 by omega]
          rw [el]
          simpa using a4
        · have el : digs v = [48 + v / 1000 % 10, 48 + v / 100 % 10, 48 + v / 10 % 10, 48 + v / 1 % 10] := by
            unfold digs
            rw [if_neg (show ¬ v < 10 by omega), if_neg (show ¬ v < 100 by omega), if_neg (show ¬ v < 1000 by omega)]
            rw [show 48 + v / 1000 % 10 = 48 + v / 1000 by omega, show 48 + v / 1 % 10 = 48 + v % 10 by omega]
          rw [el]
          simpa using b4
        · exact (((c1).trans c2).trans c3).trans c4
end
section
theorem lp_writeOut {x : CX} {d N : Nat} {σ : PH} {Q : PQ} {q lq r : Nat} {p s po pt pl : Int} {co : Int → Int} (hq : σ q = fgO q p s po pt pl) (h7 : σ (q + 7) = pcI 0 8 co) (hp : 2 ≤ p ∧ p ≤ 8) (hs : 10 ≤ s ∧ s ≤ 99) (hT : TB co p) (hpl : 0 ≤ pl ∧ pl < 10000) (hr : r = 128) (hlq : lq + 1 < q ∨ q + 7 < lq) (hd : 4 ≤ d) (h : ∀ (σ' : PH) (f' : Int → Int), Ls σ' lq r (shA co s p pl).length f' → Rp f' (shA co s p pl) → Fr σ σ' [lq, lq + 1] → Q none σ') : ∀ (t k : Nat) (f0 : Int → Int) (σ' : PH), (k : Int) ≤ p → p - k < t → Ls σ' lq r (shL co s k).length f0 → Rp f0 (shL co s k) → Fr σ σ' [lq, lq + 1] → P x d mX0_writeOut Q (0, 0) 7 [some (vR q), some (vR lq), some (vI k), none] [] N σ' := by
  intro t
  induction t with
  | zero =>
    intro k f0 σ' hk ht a0 b0 hF
    exfalso; omega
  | succ t ih =>
    intro k f0 σ' hk ht a0 b0 hF
    have hl0 := shL_len co s k (by omega)
    have l0 := a0.1
    have hq' : σ' q = fgO q p s po pt pl := (hF q (by simp <;> omega)).trans hq
    have h7' : σ' (q + 7) = pcI 0 8 co := (hF (q + 7) (by simp <;> omega)).trans h7
    refine P.iload_n (dq dtX0_writeOut 5 rfl) rfl ?_
    refine P.aload_n (dq dtX0_writeOut 6 rfl) rfl ?_
    refine P.get flX0_9 (dq dtX0_writeOut 7 rfl) (by repeat (first | assumption | exact up_s | rw [up_n (by first | assumption | (apply Ne.symm; assumption) | decide | omega)])) (by rfl) ?_
    refine P.icmp_ge (t := 67) (dq dtX0_writeOut 8 rfl) rfl (by omega) (by omega) (fun c_12 => ?_) (fun c_12 => ?_)
    · obtain rfl : k = p.toNat := by omega
      refine P.aload_n (dq dtX0_writeOut 35 rfl) rfl ?_
      refine P.bipush (dq dtX0_writeOut 36 rfl) rfl ?_
      refine P.callV1 (M' := mX1_put) (d' := d - 1) mlX0_133 mcX1_put mvX1_put (dq dtX0_writeOut 37 rfl) (by omega) (Nat.le_of_ble_eq_true rfl) (by repeat (first | assumption | exact up_s | rw [up_n (by first | assumption | (apply Ne.symm; assumption) | decide | omega)])) rfl ?_
      refine ct_putL a0 b0 (by first | omega | (simp only [List.length_append, List.length_singleton] at *; omega)) (by omega) (fun σ1 f1 a1 b1 g1 => ?_)
      have l1 := a1.1
      have hq1 : σ1 q = fgO q p s po pt pl := (g1 q (by simp <;> omega)).trans hq'
      refine P.aload_n (dq dtX0_writeOut 38 rfl) rfl ?_
      refine P.aload_n (dq dtX0_writeOut 39 rfl) rfl ?_
      refine P.get flX0_46 (dq dtX0_writeOut 40 rfl) (by repeat (first | assumption | exact up_s | rw [up_n (by first | assumption | (apply Ne.symm; assumption) | decide | omega)])) (by rfl) ?_
      refine P.callV1 (M' := mX1_putNumber) (d' := d - 1) mlX0_129 mcX1_putNumber mvX1_putNumber (dq dtX0_writeOut 41 rfl) (by omega) (Nat.le_of_ble_eq_true rfl) (by repeat (first | assumption | exact up_s | rw [up_n (by first | assumption | (apply Ne.symm; assumption) | decide | omega)])) rfl ?_
      refine ct_X1_putNumber a1 b1 (by first | omega | (simp only [List.length_append, List.length_singleton] at *; omega)) (by omega) (by omega) (fun σ2 f2 a2 b2 g2 => ?_)
      refine P.vret (dq dtX0_writeOut 42 rfl) rfl rfl rfl ?_
      exact h σ2 f2 a2 b2 ((hF.trans g1).trans g2)
    · have hms := mul_bd (k := k) (s := s) (by omega) (by omega) (by omega) (by omega)
      have hcb := hT.1 k (by omega) (by omega)
      have hd1 := digs_len k
      have hd2 : (digs k).length = 1 := by { unfold digs; rw [if_pos (by omega)]; rfl }
      refine P.aload_n (dq dtX0_writeOut 9 rfl) rfl ?_
      refine P.iload_n (dq dtX0_writeOut 10 rfl) rfl ?_
      refine P.callV1 (M' := mX0_offsetAt) (d' := d - 1) mlX0_108 mcX0_offsetAt mvX0_offsetAt (dq dtX0_writeOut 11 rfl) (by omega) (Nat.le_of_ble_eq_true rfl) (by repeat (first | assumption | exact up_s | rw [up_n (by first | assumption | (apply Ne.symm; assumption) | decide | omega)])) rfl ?_
      refine ct_X0_offsetAt (by repeat (first | assumption | exact up_s | rw [up_n (by first | assumption | (apply Ne.symm; assumption) | decide | omega)])) (by omega) (by omega) (by repeat (first | assumption | exact up_s | rw [up_n (by first | assumption | (apply Ne.symm; assumption) | decide | omega)])) (by omega) ?_
      refine P.istore_n (dq dtX0_writeOut 12 rfl) (by decide) rfl rfl ?_
      refine P.aload_n (dq dtX0_writeOut 13 rfl) rfl ?_
      refine P.iload_n (dq dtX0_writeOut 14 rfl) rfl ?_
      refine P.callV1 (M' := mX1_putNumber) (d' := d - 1) mlX0_129 mcX1_putNumber mvX1_putNumber (dq dtX0_writeOut 15 rfl) (by omega) (Nat.le_of_ble_eq_true rfl) (by repeat (first | assumption | exact up_s | rw [up_n (by first | assumption | (apply Ne.symm; assumption) | decide | omega)])) rfl ?_
      refine ct_X1_putNumber a0 b0 (by first | omega | (simp only [List.length_append, List.length_singleton] at *; omega)) (by omega) (by omega) (fun σ1 f1 a1 b1 g1 => ?_)
      have l1 := a1.1
      refine P.aload_n (dq dtX0_writeOut 16 rfl) rfl ?_
      refine P.bipush (dq dtX0_writeOut 17 rfl) rfl ?_
      refine P.callV1 (M' := mX1_put) (d' := d - 1) mlX0_133 mcX1_put mvX1_put (dq dtX0_writeOut 18 rfl) (by omega) (Nat.le_of_ble_eq_true rfl) (by repeat (first | assumption | exact up_s | rw [up_n (by first | assumption | (apply Ne.symm; assumption) | decide | omega)])) rfl ?_
      refine ct_putL a1 b1 (by first | omega | (simp only [List.length_append, List.length_singleton] at *; omega)) (by omega) (fun σ2 f2 a2 b2 g2 => ?_)
      have l2 := a2.1
      refine P.aload_n (dq dtX0_writeOut 19 rfl) rfl ?_
      refine P.iload_n (dq dtX0_writeOut 20 rfl) rfl ?_
      refine P.if_ge (t := 42) (dq dtX0_writeOut 21 rfl) rfl (by omega) (fun c_34 => ?_) (fun c_34 => ?_)
      · refine P.bipush (dq dtX0_writeOut 24 rfl) rfl ?_
        refine P.callV1 (M' := mX1_put) (d' := d - 1) mlX0_133 mcX1_put mvX1_put (dq dtX0_writeOut 25 rfl) (by omega) (Nat.le_of_ble_eq_true rfl) (by repeat (first | assumption | exact up_s | rw [up_n (by first | assumption | (apply Ne.symm; assumption) | decide | omega)])) rfl ?_
        refine ct_putL a2 b2 (by first | omega | (simp only [List.length_append, List.length_singleton] at *; omega)) (by omega) (fun σ3 f3 a3 b3 g3 => ?_)
        have l3 := a3.1
        refine P.aload_n (dq dtX0_writeOut 26 rfl) rfl ?_
        refine P.iload_n (dq dtX0_writeOut 27 rfl) rfl ?_
        refine P.callS1 (M' := mJ9_abs_0f7a4) (d' := d - 1) mlX0_114 mcJ9_abs_0f7a4 msJ9_abs_0f7a4 (dq dtX0_writeOut 28 rfl) (by omega) (Nat.le_of_ble_eq_true rfl) ?_
        refine ct_abs (by omega) (fun n_49 => ?_) (fun n_49 => ?_)
        · refine P.callV1 (M' := mX1_putNumber) (d' := d - 1) mlX0_129 mcX1_putNumber mvX1_putNumber (dq dtX0_writeOut 29 rfl) (by omega) (Nat.le_of_ble_eq_true rfl) (by repeat (first | assumption | exact up_s | rw [up_n (by first | assumption | (apply Ne.symm; assumption) | decide | omega)])) rfl ?_
          refine ct_X1_putNumber a3 b3 (by first | omega | (simp only [List.length_append, List.length_singleton] at *; omega)) (by omega) (by omega) (fun σ4 f4 a4 b4 g4 => ?_)
          have l4 := a4.1
          refine P.aload_n (dq dtX0_writeOut 30 rfl) rfl ?_
          refine P.bipush (dq dtX0_writeOut 31 rfl) rfl ?_
          refine P.callV1 (M' := mX1_put) (d' := d - 1) mlX0_133 mcX1_put mvX1_put (dq dtX0_writeOut 32 rfl) (by omega) (Nat.le_of_ble_eq_true rfl) (by repeat (first | assumption | exact up_s | rw [up_n (by first | assumption | (apply Ne.symm; assumption) | decide | omega)])) rfl ?_
          refine ct_putL a4 b4 (by have hd3 := digs_len (co k - k * s); have hd4 := digs_len (-(co k - k * s)); simp only [List.length_append, List.length_singleton] at *; omega) (by omega) (fun σ5 f5 a5 b5 g5 => ?_)
          refine P.iinc (dq dtX0_writeOut 33 rfl) rfl (by decide) rfl rfl ?_
          refine P.goto (t := 7) (dq dtX0_writeOut 34 rfl) rfl ?_
          refine P.keep [0, 1, 2] ?_
          have el : shL co s (k + 1) = shL co s k ++ digs k ++ [58] ++ [43] ++ digs (co k - k * s) ++ [59] := by
            show shL co s k ++ offL co s k = _
            unfold offL
            first | rw [if_pos (show co k - k * s < 0 by omega)] | rw [if_neg (show ¬ co k - k * s < 0 by omega)]
            first | rw [if_pos (show 0 ≤ co k - k * s by omega)] | rw [if_neg (show ¬ 0 ≤ co k - k * s by omega)]
            first | (exfalso; omega) | simp only [List.append_assoc]
          rw [← el] at a5 b5
          exact ih (k + 1) f5 σ5 (by omega) (by omega) a5 b5 ((((hF.trans g1).trans g2).trans g3).trans g4 |>.trans g5)
        · refine P.callV1 (M' := mX1_putNumber) (d' := d - 1) mlX0_129 mcX1_putNumber mvX1_putNumber (dq dtX0_writeOut 29 rfl) (by omega) (Nat.le_of_ble_eq_true rfl) (by repeat (first | assumption | exact up_s | rw [up_n (by first | assumption | (apply Ne.symm; assumption) | decide | omega)])) rfl ?_
          refine ct_X1_putNumber a3 b3 (by first | omega | (simp only [List.length_append, List.length_singleton] at *; omega)) (by omega) (by omega) (fun σ4 f4 a4 b4 g4 => ?_)
          have l4 := a4.1
          refine P.aload_n (dq dtX0_writeOut 30 rfl) rfl ?_
          refine P.bipush (dq dtX0_writeOut 31 rfl) rfl ?_
          refine P.callV1 (M' := mX1_put) (d' := d - 1) mlX0_133 mcX1_put mvX1_put (dq dtX0_writeOut 32 rfl) (by omega) (Nat.le_of_ble_eq_true rfl) (by repeat (first | assumption | exact up_s | rw [up_n (by first | assumption | (apply Ne.symm; assumption) | decide | omega)])) rfl ?_
          refine ct_putL a4 b4 (by have hd3 := digs_len (co k - k * s); have hd4 := digs_len (-(co k - k * s)); simp only [List.length_append, List.length_singleton] at *; omega) (by omega) (fun σ5 f5 a5 b5 g5 => ?_)
          refine P.iinc (dq dtX0_writeOut 33 rfl) rfl (by decide) rfl rfl ?_
          refine P.goto (t := 7) (dq dtX0_writeOut 34 rfl) rfl ?_
          refine P.keep [0, 1, 2] ?_
          have el : shL co s (k + 1) = shL co s k ++ digs k ++ [58] ++ [43] ++ digs (-(co k - k * s)) ++ [59] := by
            show shL co s k ++ offL co s k = _
            unfold offL
            first | rw [if_pos (show co k - k * s < 0 by omega)] | rw [if_neg (show ¬ co k - k * s < 0 by omega)]
            first | rw [if_pos (show 0 ≤ co k - k * s by omega)] | rw [if_neg (show ¬ 0 ≤ co k - k * s by omega)]
            first | (exfalso; omega) | simp only [List.append_assoc]
          rw [← el] at a5 b5
          exact ih (k + 1) f5 σ5 (by omega) (by omega) a5 b5 ((((hF.trans g1).trans g2).trans g3).trans g4 |>.trans g5)
      · refine P.bipush (dq dtX0_writeOut 22 rfl) rfl ?_
        refine P.goto (t := 44) (dq dtX0_writeOut 23 rfl) rfl ?_
        refine P.callV1 (M' := mX1_put) (d' := d - 1) mlX0_133 mcX1_put mvX1_put (dq dtX0_writeOut 25 rfl) (by omega) (Nat.le_of_ble_eq_true rfl) (by repeat (first | assumption | exact up_s | rw [up_n (by first | assumption | (apply Ne.symm; assumption) | decide | omega)])) rfl ?_
        refine ct_putL a2 b2 (by first | omega | (simp only [List.length_append, List.length_singleton] at *; omega)) (by omega) (fun σ3 f3 a3 b3 g3 => ?_)
        have l3 := a3.1
        refine P.aload_n (dq dtX0_writeOut 26 rfl) rfl ?_
        refine P.iload_n (dq dtX0_writeOut 27 rfl) rfl ?_
        refine P.callS1 (M' := mJ9_abs_0f7a4) (d' := d - 1) mlX0_114 mcJ9_abs_0f7a4 msJ9_abs_0f7a4 (dq dtX0_writeOut 28 rfl) (by omega) (Nat.le_of_ble_eq_true rfl) ?_
        refine ct_abs (by omega) (fun n_49 => ?_) (fun n_49 => ?_)
        · refine P.callV1 (M' := mX1_putNumber) (d' := d - 1) mlX0_129 mcX1_putNumber mvX1_putNumber (dq dtX0_writeOut 29 rfl) (by omega) (Nat.le_of_ble_eq_true rfl) (by repeat (first | assumption | exact up_s | rw [up_n (by first | assumption | (apply Ne.symm; assumption) | decide | omega)])) rfl ?_
          refine ct_X1_putNumber a3 b3 (by first | omega | (simp only [List.length_append, List.length_singleton] at *; omega)) (by omega) (by omega) (fun σ4 f4 a4 b4 g4 => ?_)
          have l4 := a4.1
          refine P.aload_n (dq dtX0_writeOut 30 rfl) rfl ?_
          refine P.bipush (dq dtX0_writeOut 31 rfl) rfl ?_
          refine P.callV1 (M' := mX1_put) (d' := d - 1) mlX0_133 mcX1_put mvX1_put (dq dtX0_writeOut 32 rfl) (by omega) (Nat.le_of_ble_eq_true rfl) (by repeat (first | assumption | exact up_s | rw [up_n (by first | assumption | (apply Ne.symm; assumption) | decide | omega)])) rfl ?_
          refine ct_putL a4 b4 (by have hd3 := digs_len (co k - k * s); have hd4 := digs_len (-(co k - k * s)); simp only [List.length_append, List.length_singleton] at *; omega) (by omega) (fun σ5 f5 a5 b5 g5 => ?_)
          refine P.iinc (dq dtX0_writeOut 33 rfl) rfl (by decide) rfl rfl ?_
          refine P.goto (t := 7) (dq dtX0_writeOut 34 rfl) rfl ?_
          refine P.keep [0, 1, 2] ?_
          have el : shL co s (k + 1) = shL co s k ++ digs k ++ [58] ++ [45] ++ digs (co k - k * s) ++ [59] := by
            show shL co s k ++ offL co s k = _
            unfold offL
            first | rw [if_pos (show co k - k * s < 0 by omega)] | rw [if_neg (show ¬ co k - k * s < 0 by omega)]
            first | rw [if_pos (show 0 ≤ co k - k * s by omega)] | rw [if_neg (show ¬ 0 ≤ co k - k * s by omega)]
            first | (exfalso; omega) | simp only [List.append_assoc]
          rw [← el] at a5 b5
          exact ih (k + 1) f5 σ5 (by omega) (by omega) a5 b5 ((((hF.trans g1).trans g2).trans g3).trans g4 |>.trans g5)
        · refine P.callV1 (M' := mX1_putNumber) (d' := d - 1) mlX0_129 mcX1_putNumber mvX1_putNumber (dq dtX0_writeOut 29 rfl) (by omega) (Nat.le_of_ble_eq_true rfl) (by repeat (first | assumption | exact up_s | rw [up_n (by first | assumption | (apply Ne.symm; assumption) | decide | omega)])) rfl ?_
          refine ct_X1_putNumber a3 b3 (by first | omega | (simp only [List.length_append, List.length_singleton] at *; omega)) (by omega) (by omega) (fun σ4 f4 a4 b4 g4 => ?_)
          have l4 := a4.1
          refine P.aload_n (dq dtX0_writeOut 30 rfl) rfl ?_
          refine P.bipush (dq dtX0_writeOut 31 rfl) rfl ?_
          refine P.callV1 (M' := mX1_put) (d' := d - 1) mlX0_133 mcX1_put mvX1_put (dq dtX0_writeOut 32 rfl) (by omega) (Nat.le_of_ble_eq_true rfl) (by repeat (first | assumption | exact up_s | rw [up_n (by first | assumption | (apply Ne.symm; assumption) | decide | omega)])) rfl ?_
          refine ct_putL a4 b4 (by have hd3 := digs_len (co k - k * s); have hd4 := digs_len (-(co k - k * s)); simp only [List.length_append, List.length_singleton] at *; omega) (by omega) (fun σ5 f5 a5 b5 g5 => ?_)
          refine P.iinc (dq dtX0_writeOut 33 rfl) rfl (by decide) rfl rfl ?_
          refine P.goto (t := 7) (dq dtX0_writeOut 34 rfl) rfl ?_
          refine P.keep [0, 1, 2] ?_
          have el : shL co s (k + 1) = shL co s k ++ digs k ++ [58] ++ [45] ++ digs (-(co k - k * s)) ++ [59] := by
            show shL co s k ++ offL co s k = _
            unfold offL
            first | rw [if_pos (show co k - k * s < 0 by omega)] | rw [if_neg (show ¬ co k - k * s < 0 by omega)]
            first | rw [if_pos (show 0 ≤ co k - k * s by omega)] | rw [if_neg (show ¬ 0 ≤ co k - k * s by omega)]
            first | (exfalso; omega) | simp only [List.append_assoc]
          rw [← el] at a5 b5
          exact ih (k + 1) f5 σ5 (by omega) (by omega) a5 b5 ((((hF.trans g1).trans g2).trans g3).trans g4 |>.trans g5)
/-- Figures.writeOut -/
theorem ct_X0_writeOut {x : CM} {d N : Nat} {σ : PH} {Q : PQ} {q lq r : Nat} {p s po pt pl : Int} {co : Int → Int} (hq : σ q = fgO q p s po pt pl) (h7 : σ (q + 7) = pcI 0 8 co) (hp : 2 ≤ p ∧ p ≤ 8) (hs : 10 ≤ s ∧ s ≤ 99) (hT : TB co p) {n0 : Int} {f0 : Int → Int} (hpl : 0 ≤ pl ∧ pl < 10000) (hr : r = 128) (hlq : lq + 1 < q ∨ q + 7 < lq) (hd : 4 ≤ d) (hL : Ls σ lq r n0 f0) (h : ∀ (σ' : PH) (f' : Int → Int), Ls σ' lq r (shA co s p pl).length f' → Rp f' (shA co s p pl) → Fr σ σ' [lq, lq + 1] → Q none σ') : Call x d 0 0 mX0_writeOut [vR q, vR lq] N σ Q := by
  refine Call.of mcX0_writeOut (Nat.le_of_ble_eq_true rfl) (fun y hy => ?_)
  subst hy
  have hL0 := hL.1
  refine P.aload_n (dq dtX0_writeOut 0 rfl) rfl ?_
  refine P.iconst (dq dtX0_writeOut 1 rfl) ?_
  refine P.put flX0_124 rfl (dq dtX0_writeOut 2 rfl) (by repeat (first | assumption | exact up_s | rw [up_n (by first | assumption | (apply Ne.symm; assumption) | decide | omega)])) (by exact Nat.le_of_ble_eq_true rfl) rfl rfl rfl rfl rfl ?_
  refine P.iconst (dq dtX0_writeOut 3 rfl) ?_
  refine P.istore_n (dq dtX0_writeOut 4 rfl) (by decide) rfl rfl ?_
  refine P.keep [0, 1, 2] ?_
  refine lp_writeOut (σ := σ) hq h7 hp hs hT hpl hr hlq hd h 9 0 f0 _ (by omega) (by omega) ⟨?_, ?_⟩ Rp_nil (by repeat (first | assumption | exact Fr.rf | refine Fr.up ?_ (by simp)))
  · exact up_s
  · rw [up_n (by omega)]
    exact hL.2
end
section
theorem ct_minI {x : CM} {d N : Nat} {σ : PH} {Q : PQ} {a c : Int} (ha : inR a) (hc : inR c) (h : Q (some (vI (min a c))) σ) : Call x d 0 0 mJ9_min_7cf53 [vI a, vI c] N σ Q := ct_min ha hc (fun h9 => by rw [Int.min_eq_left h9] at h; exact h) (fun h9 => by rw [Int.min_eq_right (by omega)] at h; exact h)
theorem ct_absI {x : CM} {d N : Nat} {σ : PH} {Q : PQ} {a : Int} (ha : inR a) (h : Q (some (vI (absI a))) σ) : Call x d 0 0 mJ9_abs_0f7a4 [vI a] N σ Q := ct_abs ha (fun h9 => by unfold absI at h; rw [if_pos h9] at h; exact h) (fun h9 => by unfold absI at h; rw [if_neg (by omega)] at h; exact h)
theorem rise_bd {co : Int → Int} {p s k y : Int} (hT : TB co p) (hk : 0 ≤ k) (hk1 : k + 1 < p) (hy : 0 ≤ y) (hys : y ≤ s) (hs : s ≤ 99) : (1 ≤ co (k + 1) - co k ∧ co (k + 1) - co k ≤ 1511) ∧ 0 ≤ (co (k + 1) - co k) * y ∧ (co (k + 1) - co k) * y ≤ 149589 := by
  have h1 := hT.2 k hk hk1
  have h2 := hT.1 k hk (by omega)
  have h3 := hT.1 (k + 1) (by omega) hk1
  have h4 := Int.mul_nonneg (show 0 ≤ co (k + 1) - co k by omega) hy
  have h5 : (co (k + 1) - co k) * y ≤ 1511 * y := Int.mul_le_mul_of_nonneg_right (by omega) hy
  omega
/-- Figures.countAt -/
theorem ct_X0_countAt {x : CM} {d N : Nat} {σ : PH} {Q : PQ} {q : Nat} {p s po pt pl : Int} {co : Int → Int} (hq : σ q = fgO q p s po pt pl) (h7 : σ (q + 7) = pcI 0 8 co) (hp : 2 ≤ p ∧ p ≤ 8) (hs : 10 ≤ s ∧ s ≤ 99) (hT : TB co p) (hd : 2 ≤ d) {z : Int} (hz : 0 ≤ z ∧ z ≤ (p - 1) * s) (h : Q (some (vI (cntF co p s z))) σ) : Call x d 0 0 mX0_countAt [vR q, vI z] N σ Q := by
  refine Call.of mcX0_countAt (Nat.le_of_ble_eq_true rfl) (fun y hy => ?_)
  subst hy
  have hL := mul_bd (k := p - 1) (s := s) (by omega) (by omega) (by omega) (by omega)
  obtain ⟨d1, d2, d3, d4⟩ := div_bd hz.1 hz.2 (show 0 < s by omega) hp.1
  have e0 : z.tdiv s = z / s := Int.tdiv_eq_ediv_of_nonneg hz.1
  have e9 := Int.ediv_nonneg hz.1 (show 0 ≤ s by omega)
  have e8 : z / s ≤ z := Int.ediv_le_self _ hz.1
  unfold cntF at h
  obtain ⟨⟨r1, r2⟩, r3, r4⟩ := rise_bd (y := z - min (z / s) (p - 2) * s) hT d1 (by omega) d3 d4 (by omega)
  refine P.aload_n (dq dtX0_countAt 0 rfl) rfl ?_
  refine P.iload_n (dq dtX0_countAt 1 rfl) rfl ?_
  refine P.callV1 (M' := mX0_hasPlace) (d' := d - 1) mlX0_117 mcX0_hasPlace mvX0_hasPlace (dq dtX0_countAt 2 rfl) (by omega) (Nat.le_of_ble_eq_true rfl) (by repeat (first | assumption | exact up_s | rw [up_n (by first | assumption | (apply Ne.symm; assumption) | decide | omega)])) rfl ?_
  refine ct_X0_hasPlace (by repeat (first | assumption | exact up_s | rw [up_n (by first | assumption | (apply Ne.symm; assumption) | decide | omega)])) (by omega) (by omega) (by omega) (fun n_2 => ?_) (fun n_2 => absurd hz n_2)
  refine P.if_eq (t := 16) (dq dtX0_countAt 3 rfl) rfl (by omega) (fun h9 => absurd h9 (by decide)) (fun _ => ?_)
  refine P.aload_n (dq dtX0_countAt 4 rfl) rfl ?_
  refine P.get flX0_15 (dq dtX0_countAt 5 rfl) (by repeat (first | assumption | exact up_s | rw [up_n (by first | assumption | (apply Ne.symm; assumption) | decide | omega)])) (by rfl) ?_
  refine P.iconst (dq dtX0_countAt 6 rfl) ?_
  refine P.icmp_ge (t := 18) (dq dtX0_countAt 7 rfl) rfl (by omega) (by omega) (fun c_13 => ?_) (fun c_13 => ?_)
  · refine P.iload_n (dq dtX0_countAt 10 rfl) rfl ?_
    refine P.aload_n (dq dtX0_countAt 11 rfl) rfl ?_
    refine P.get flX0_15 (dq dtX0_countAt 12 rfl) (by repeat (first | assumption | exact up_s | rw [up_n (by first | assumption | (apply Ne.symm; assumption) | decide | omega)])) (by rfl) ?_
    refine P.idiv (dq dtX0_countAt 13 rfl) (by omega) (by omega) (by omega) ?_
    rw [e0]
    refine P.aload_n (dq dtX0_countAt 14 rfl) rfl ?_
    refine P.get flX0_9 (dq dtX0_countAt 15 rfl) (by repeat (first | assumption | exact up_s | rw [up_n (by first | assumption | (apply Ne.symm; assumption) | decide | omega)])) (by rfl) ?_
    refine P.iconst (dq dtX0_countAt 16 rfl) ?_
    refine P.isub (dq dtX0_countAt 17 rfl) ?_
    refine P.callS2 (M' := mJ9_min_7cf53) (d' := d - 1) mlX0_52 mcJ9_min_7cf53 msJ9_min_7cf53 (dq dtX0_countAt 18 rfl) (by omega) (Nat.le_of_ble_eq_true rfl) ?_
    refine ct_minI (by omega) (by omega) ?_
    generalize hmn : min (z / s) (p - 2) = m at *
    refine P.istore_n (dq dtX0_countAt 19 rfl) (by decide) rfl rfl ?_
    refine P.aload_n (dq dtX0_countAt 20 rfl) rfl ?_
    refine P.iload_n (dq dtX0_countAt 21 rfl) rfl ?_
    refine P.iconst (dq dtX0_countAt 22 rfl) ?_
    refine P.iadd (dq dtX0_countAt 23 rfl) ?_
    refine P.callV1 (M' := mX0_tableAt) (d' := d - 1) mlX0_105 mcX0_tableAt mvX0_tableAt (dq dtX0_countAt 24 rfl) (by omega) (Nat.le_of_ble_eq_true rfl) (by repeat (first | assumption | exact up_s | rw [up_n (by first | assumption | (apply Ne.symm; assumption) | decide | omega)])) rfl ?_
    refine ct_X0_tableAt (by repeat (first | assumption | exact up_s | rw [up_n (by first | assumption | (apply Ne.symm; assumption) | decide | omega)])) (by omega) (by omega) (by repeat (first | assumption | exact up_s | rw [up_n (by first | assumption | (apply Ne.symm; assumption) | decide | omega)])) (by omega) ?_
    refine P.aload_n (dq dtX0_countAt 25 rfl) rfl ?_
    refine P.iload_n (dq dtX0_countAt 26 rfl) rfl ?_
    refine P.callV1 (M' := mX0_tableAt) (d' := d - 1) mlX0_105 mcX0_tableAt mvX0_tableAt (dq dtX0_countAt 27 rfl) (by omega) (Nat.le_of_ble_eq_true rfl) (by repeat (first | assumption | exact up_s | rw [up_n (by first | assumption | (apply Ne.symm; assumption) | decide | omega)])) rfl ?_
    refine ct_X0_tableAt (by repeat (first | assumption | exact up_s | rw [up_n (by first | assumption | (apply Ne.symm; assumption) | decide | omega)])) (by omega) (by omega) (by repeat (first | assumption | exact up_s | rw [up_n (by first | assumption | (apply Ne.symm; assumption) | decide | omega)])) (by omega) ?_
    refine P.isub (dq dtX0_countAt 28 rfl) ?_
    refine P.istore_n (dq dtX0_countAt 29 rfl) (by decide) rfl rfl ?_
    refine P.aload_n (dq dtX0_countAt 30 rfl) rfl ?_
    refine P.iload_n (dq dtX0_countAt 31 rfl) rfl ?_
    refine P.callV1 (M' := mX0_tableAt) (d' := d - 1) mlX0_105 mcX0_tableAt mvX0_tableAt (dq dtX0_countAt 32 rfl) (by omega) (Nat.le_of_ble_eq_true rfl) (by repeat (first | assumption | exact up_s | rw [up_n (by first | assumption | (apply Ne.symm; assumption) | decide | omega)])) rfl ?_
    refine ct_X0_tableAt (by repeat (first | assumption | exact up_s | rw [up_n (by first | assumption | (apply Ne.symm; assumption) | decide | omega)])) (by omega) (by omega) (by repeat (first | assumption | exact up_s | rw [up_n (by first | assumption | (apply Ne.symm; assumption) | decide | omega)])) (by omega) ?_
    refine P.iload_n (dq dtX0_countAt 33 rfl) rfl ?_
    refine P.iload_n (dq dtX0_countAt 34 rfl) rfl ?_
    refine P.iload_n (dq dtX0_countAt 35 rfl) rfl ?_
    refine P.aload_n (dq dtX0_countAt 36 rfl) rfl ?_
    refine P.get flX0_15 (dq dtX0_countAt 37 rfl) (by repeat (first | assumption | exact up_s | rw [up_n (by first | assumption | (apply Ne.symm; assumption) | decide | omega)])) (by rfl) ?_
    refine P.imul (dq dtX0_countAt 38 rfl) ?_
    refine P.isub (dq dtX0_countAt 39 rfl) ?_
    refine P.imul (dq dtX0_countAt 40 rfl) ?_
    refine P.aload_n (dq dtX0_countAt 41 rfl) rfl ?_
    refine P.get flX0_15 (dq dtX0_countAt 42 rfl) (by repeat (first | assumption | exact up_s | rw [up_n (by first | assumption | (apply Ne.symm; assumption) | decide | omega)])) (by rfl) ?_
    refine P.callS2 (M' := mJ9_floorDiv_7cf53) (d' := d - 1) mlX0_120 mcJ9_floorDiv_7cf53 msJ9_floorDiv_7cf53 (dq dtX0_countAt 43 rfl) (by omega) (Nat.le_of_ble_eq_true rfl) ?_
    refine ct_floorDiv (by omega) (by omega) (by omega) ?_
    refine P.iadd (dq dtX0_countAt 44 rfl) ?_
    refine P.iret (dq dtX0_countAt 45 rfl) rfl rfl rfl ?_
    exact h
  · refine P.iconst (dq dtX0_countAt 8 rfl) ?_
    refine P.iret (dq dtX0_countAt 9 rfl) rfl rfl rfl ?_
    exfalso; omega
theorem lp_placeAt {x : CX} {d N : Nat} {σ : PH} {Q : PQ} {q : Nat} {p s po pt pl : Int} {co : Int → Int} (hq : σ q = fgO q p s po pt pl) (h7 : σ (q + 7) = pcI 0 8 co) (hp : 2 ≤ p ∧ p ≤ 8) (hs : 10 ≤ s ∧ s ≤ 99) (hT : TB co p) (hd : 2 ≤ d) {y : Int} (hy : -200 ≤ y ∧ y ≤ 2000) : ∀ (t : Nat) (k : Int), 0 < t → 0 ≤ k → k + t = p → co k < y → Q (some (vI (plF co s y (t - 1) k))) σ → P x d mX0_placeAt Q (0, 0) 13 [some (vR q), some (vI y), some (vI k), none, none] [] N σ := by
  intro t
  induction t with
  | zero =>
    intro k h00 hk ht hlo h
    exfalso; omega
  | succ t ih =>
    intro k h00 hk ht hlo h
    refine P.iload_n (dq dtX0_placeAt 9 rfl) rfl ?_
    refine P.aload_n (dq dtX0_placeAt 10 rfl) rfl ?_
    refine P.get flX0_9 (dq dtX0_placeAt 11 rfl) (by repeat (first | assumption | exact up_s | rw [up_n (by first | assumption | (apply Ne.symm; assumption) | decide | omega)])) (by rfl) ?_
    refine P.iconst (dq dtX0_placeAt 12 rfl) ?_
    refine P.isub (dq dtX0_placeAt 13 rfl) ?_
    refine P.icmp_ge (t := 87) (dq dtX0_placeAt 14 rfl) rfl (by omega) (by omega) (fun c_20 => ?_) (fun c_20 => ?_)
    · refine P.ldc (n := -100000) (dq dtX0_placeAt 55 rfl) kcX0_123 rfl ?_
      refine P.iret (dq dtX0_placeAt 56 rfl) rfl rfl rfl ?_
      obtain rfl : t = 0 := by omega
      exact h
    · obtain ⟨t, rfl⟩ : ∃ w, t = w + 1 := ⟨t - 1, by omega⟩
      have hx : plF co s y (t + 1 + 1 - 1) k = if y ≤ co (k + 1) then k * s - (-(y - co k) * s) / (co (k + 1) - co k) else plF co s y t (k + 1) := rfl
      rw [hx] at h
      have b1 := hT.1 k (by omega) (by omega)
      have b2 := hT.1 (k + 1) (by omega) (by omega)
      have b3 := hT.2 k (by omega) (by omega)
      refine P.aload_n (dq dtX0_placeAt 15 rfl) rfl ?_
      refine P.iload_n (dq dtX0_placeAt 16 rfl) rfl ?_
      refine P.iconst (dq dtX0_placeAt 17 rfl) ?_
      refine P.iadd (dq dtX0_placeAt 18 rfl) ?_
      refine P.callV1 (M' := mX0_tableAt) (d' := d - 1) mlX0_105 mcX0_tableAt mvX0_tableAt (dq dtX0_placeAt 19 rfl) (by omega) (Nat.le_of_ble_eq_true rfl) (by repeat (first | assumption | exact up_s | rw [up_n (by first | assumption | (apply Ne.symm; assumption) | decide | omega)])) rfl ?_
      refine ct_X0_tableAt (by repeat (first | assumption | exact up_s | rw [up_n (by first | assumption | (apply Ne.symm; assumption) | decide | omega)])) (by omega) (by omega) (by repeat (first | assumption | exact up_s | rw [up_n (by first | assumption | (apply Ne.symm; assumption) | decide | omega)])) (by omega) ?_
      refine P.aload_n (dq dtX0_placeAt 20 rfl) rfl ?_
      refine P.iload_n (dq dtX0_placeAt 21 rfl) rfl ?_
      refine P.callV1 (M' := mX0_tableAt) (d' := d - 1) mlX0_105 mcX0_tableAt mvX0_tableAt (dq dtX0_placeAt 22 rfl) (by omega) (Nat.le_of_ble_eq_true rfl) (by repeat (first | assumption | exact up_s | rw [up_n (by first | assumption | (apply Ne.symm; assumption) | decide | omega)])) rfl ?_
      refine ct_X0_tableAt (by repeat (first | assumption | exact up_s | rw [up_n (by first | assumption | (apply Ne.symm; assumption) | decide | omega)])) (by omega) (by omega) (by repeat (first | assumption | exact up_s | rw [up_n (by first | assumption | (apply Ne.symm; assumption) | decide | omega)])) (by omega) ?_
      refine P.isub (dq dtX0_placeAt 23 rfl) ?_
      refine P.istore_n (dq dtX0_placeAt 24 rfl) (by decide) rfl rfl ?_
      refine P.iload_n (dq dtX0_placeAt 25 rfl) rfl ?_
      refine P.aload_n (dq dtX0_placeAt 26 rfl) rfl ?_
      refine P.iload_n (dq dtX0_placeAt 27 rfl) rfl ?_
      refine P.iconst (dq dtX0_placeAt 28 rfl) ?_
      refine P.iadd (dq dtX0_placeAt 29 rfl) ?_
      refine P.callV1 (M' := mX0_tableAt) (d' := d - 1) mlX0_105 mcX0_tableAt mvX0_tableAt (dq dtX0_placeAt 30 rfl) (by omega) (Nat.le_of_ble_eq_true rfl) (by repeat (first | assumption | exact up_s | rw [up_n (by first | assumption | (apply Ne.symm; assumption) | decide | omega)])) rfl ?_
      refine ct_X0_tableAt (by repeat (first | assumption | exact up_s | rw [up_n (by first | assumption | (apply Ne.symm; assumption) | decide | omega)])) (by omega) (by omega) (by repeat (first | assumption | exact up_s | rw [up_n (by first | assumption | (apply Ne.symm; assumption) | decide | omega)])) (by omega) ?_
      refine P.icmp_gt (t := 81) (dq dtX0_placeAt 31 rfl) rfl (by omega) (by omega) (fun c_45 => ?_) (fun c_45 => ?_)
      · refine P.iinc (dq dtX0_placeAt 53 rfl) rfl (by decide) rfl rfl ?_
        refine P.goto (t := 13) (dq dtX0_placeAt 54 rfl) rfl ?_
        rw [if_neg (show ¬ y ≤ co (k + 1) by omega)] at h
        refine P.keep [0, 1, 2] ?_
        exact ih (k + 1) (by omega) (by omega) (by omega) (by omega) h
      · refine P.iload_n (dq dtX0_placeAt 32 rfl) rfl ?_
        refine P.if_le (t := 81) (dq dtX0_placeAt 33 rfl) rfl (by omega) (fun c_49 => ?_) (fun c_49 => ?_)
        · refine P.iinc (dq dtX0_placeAt 53 rfl) rfl (by decide) rfl rfl ?_
          refine P.goto (t := 13) (dq dtX0_placeAt 54 rfl) rfl ?_
          rw [if_neg (show ¬ y ≤ co (k + 1) by omega)] at h
          refine P.keep [0, 1, 2] ?_
          exact ih (k + 1) (by omega) (by omega) (by omega) (by omega) h
        · have b4 : 0 ≤ (y - co k) * s := Int.mul_nonneg (by omega) (by omega)
          have b5 : (y - co k) * s ≤ 2751 * s := Int.mul_le_mul_of_nonneg_right (by omega) (by omega)
          have b6 : -(y - co k) * s = -((y - co k) * s) := Int.neg_mul _ _
          refine P.iload_n (dq dtX0_placeAt 34 rfl) rfl ?_
          refine P.aload_n (dq dtX0_placeAt 35 rfl) rfl ?_
          refine P.iload_n (dq dtX0_placeAt 36 rfl) rfl ?_
          refine P.callV1 (M' := mX0_tableAt) (d' := d - 1) mlX0_105 mcX0_tableAt mvX0_tableAt (dq dtX0_placeAt 37 rfl) (by omega) (Nat.le_of_ble_eq_true rfl) (by repeat (first | assumption | exact up_s | rw [up_n (by first | assumption | (apply Ne.symm; assumption) | decide | omega)])) rfl ?_
          refine ct_X0_tableAt (by repeat (first | assumption | exact up_s | rw [up_n (by first | assumption | (apply Ne.symm; assumption) | decide | omega)])) (by omega) (by omega) (by repeat (first | assumption | exact up_s | rw [up_n (by first | assumption | (apply Ne.symm; assumption) | decide | omega)])) (by omega) ?_
          refine P.isub (dq dtX0_placeAt 38 rfl) ?_
          refine P.istore (dq dtX0_placeAt 39 rfl) (by decide) rfl rfl ?_
          refine P.iload_n (dq dtX0_placeAt 40 rfl) rfl ?_
          refine P.aload_n (dq dtX0_placeAt 41 rfl) rfl ?_
          refine P.get flX0_15 (dq dtX0_placeAt 42 rfl) (by repeat (first | assumption | exact up_s | rw [up_n (by first | assumption | (apply Ne.symm; assumption) | decide | omega)])) (by rfl) ?_
          refine P.imul (dq dtX0_placeAt 43 rfl) ?_
          refine P.iload (dq dtX0_placeAt 44 rfl) rfl ?_
          refine P.ineg (dq dtX0_placeAt 45 rfl) ?_
          refine P.aload_n (dq dtX0_placeAt 46 rfl) rfl ?_
          refine P.get flX0_15 (dq dtX0_placeAt 47 rfl) (by repeat (first | assumption | exact up_s | rw [up_n (by first | assumption | (apply Ne.symm; assumption) | decide | omega)])) (by rfl) ?_
          refine P.imul (dq dtX0_placeAt 48 rfl) ?_
          refine P.iload_n (dq dtX0_placeAt 49 rfl) rfl ?_
          refine P.callS2 (M' := mJ9_floorDiv_7cf53) (d' := d - 1) mlX0_120 mcJ9_floorDiv_7cf53 msJ9_floorDiv_7cf53 (dq dtX0_placeAt 50 rfl) (by omega) (Nat.le_of_ble_eq_true rfl) ?_
          refine ct_floorDiv (by omega) (by omega) (by omega) ?_
          refine P.isub (dq dtX0_placeAt 51 rfl) ?_
          refine P.iret (dq dtX0_placeAt 52 rfl) rfl rfl rfl ?_
          rw [if_pos (show y ≤ co (k + 1) by omega)] at h
          exact h
/-- Figures.placeAt -/
theorem ct_X0_placeAt {x : CM} {d N : Nat} {σ : PH} {Q : PQ} {q : Nat} {p s po pt pl : Int} {co : Int → Int} (hq : σ q = fgO q p s po pt pl) (h7 : σ (q + 7) = pcI 0 8 co) (hp : 2 ≤ p ∧ p ≤ 8) (hs : 10 ≤ s ∧ s ≤ 99) (hT : TB co p) (hd : 2 ≤ d) {u : Int} (hy : -200 ≤ u ∧ u ≤ 2000) (h : Q (some (vI (if u ≤ co 0 then 0 else plF co s u (p - 1).toNat 0))) σ) : Call x d 0 0 mX0_placeAt [vR q, vI u] N σ Q := by
  refine Call.of mcX0_placeAt (Nat.le_of_ble_eq_true rfl) (fun y hy => ?_)
  subst hy
  have b1 := hT.1 0 (by omega) (by omega)
  refine P.iload_n (dq dtX0_placeAt 0 rfl) rfl ?_
  refine P.aload_n (dq dtX0_placeAt 1 rfl) rfl ?_
  refine P.iconst (dq dtX0_placeAt 2 rfl) ?_
  refine P.callV1 (M' := mX0_tableAt) (d' := d - 1) mlX0_105 mcX0_tableAt mvX0_tableAt (dq dtX0_placeAt 3 rfl) (by omega) (Nat.le_of_ble_eq_true rfl) (by repeat (first | assumption | exact up_s | rw [up_n (by first | assumption | (apply Ne.symm; assumption) | decide | omega)])) rfl ?_
  refine ct_X0_tableAt (by repeat (first | assumption | exact up_s | rw [up_n (by first | assumption | (apply Ne.symm; assumption) | decide | omega)])) (by omega) (by omega) (by repeat (first | assumption | exact up_s | rw [up_n (by first | assumption | (apply Ne.symm; assumption) | decide | omega)])) (by omega) ?_
  refine P.icmp_gt (t := 11) (dq dtX0_placeAt 4 rfl) rfl (by omega) (by omega) (fun c_6 => ?_) (fun c_6 => ?_)
  · refine P.iconst (dq dtX0_placeAt 7 rfl) ?_
    refine P.istore_n (dq dtX0_placeAt 8 rfl) (by decide) rfl rfl ?_
    rw [if_neg (show ¬ u ≤ co 0 by omega)] at h
    exact lp_placeAt hq h7 hp hs hT hd hy ((p - 1).toNat + 1) 0 (by omega) (by omega) (by omega) (by omega) h
  · refine P.iconst (dq dtX0_placeAt 5 rfl) ?_
    refine P.iret (dq dtX0_placeAt 6 rfl) rfl rfl rfl ?_
    rw [if_pos (show u ≤ co 0 by omega)] at h
    exact h
theorem lp_worst {x : CX} {d N : Nat} {σ : PH} {Q : PQ} {q : Nat} {p s po pt pl : Int} {me co : Int → Int} (hq : σ q = fgO q p s po pt pl) (h7 : σ (q + 7) = pcI 0 8 co) (hp : 2 ≤ p ∧ p ≤ 8) (hs : 10 ≤ s ∧ s ≤ 99) (hT : TB co p) (h1 : σ (q + 1) = pcI 0 16 me) (hd : 4 ≤ d) (hmb : ∀ k : Int, 0 ≤ k → k < 2 * p → -1000000 ≤ misF me co s pl (k / 2) (k % 2) ∧ misF me co s pl (k / 2) (k % 2) ≤ 1000000) (h : Q (some (vI (wst (fun k => absI (misF me co s pl (k / 2) (k % 2))) (2 * p).toNat).1)) σ) : ∀ (t n : Nat), (n : Int) ≤ 2 * p → 2 * p - n < t → (-1 ≤ (wst (fun k => absI (misF me co s pl (k / 2) (k % 2))) n).2 ∧ (wst (fun k => absI (misF me co s pl (k / 2) (k % 2))) n).2 ≤ 1000000) → P x d mX0_worstSlot Q (0, 0) 6 [some (vR q), some (vI (wst (fun k => absI (misF me co s pl (k / 2) (k % 2))) n).1), some (vI (wst (fun k => absI (misF me co s pl (k / 2) (k % 2))) n).2), some (vI n), none] [] N σ := by
  intro t
  induction t with
  | zero =>
    intro n hn ht hb
    exfalso; omega
  | succ t ih =>
    intro n hn ht hb
    refine P.iload_n (dq dtX0_worstSlot 6 rfl) rfl ?_
    refine P.aload_n (dq dtX0_worstSlot 7 rfl) rfl ?_
    refine P.get flX0_9 (dq dtX0_worstSlot 8 rfl) (by repeat (first | assumption | exact up_s | rw [up_n (by first | assumption | (apply Ne.symm; assumption) | decide | omega)])) (by rfl) ?_
    refine P.iconst (dq dtX0_worstSlot 9 rfl) ?_
    refine P.imul (dq dtX0_worstSlot 10 rfl) ?_
    refine P.icmp_ge (t := 48) (dq dtX0_worstSlot 11 rfl) rfl (by omega) (by omega) (fun c_13 => ?_) (fun c_13 => ?_)
    · refine P.iload_n (dq dtX0_worstSlot 31 rfl) rfl ?_
      refine P.iret (dq dtX0_worstSlot 32 rfl) rfl rfl rfl ?_
      obtain rfl : n = (2 * p).toNat := by omega
      exact h
    · have hmk := hmb n (by omega) (by omega)
      have e1 : (n : Int).tdiv 2 = (n : Int) / 2 := Int.tdiv_eq_ediv_of_nonneg (by omega)
      have e2 : (n : Int).tmod 2 = (n : Int) % 2 := Int.tmod_eq_emod_of_nonneg (by omega)
      have hx : wst (fun k => absI (misF me co s pl (k / 2) (k % 2))) (n + 1) = if (wst (fun k => absI (misF me co s pl (k / 2) (k % 2))) n).2 < absI (misF me co s pl ((n : Int) / 2) ((n : Int) % 2)) then ((n : Int), absI (misF me co s pl ((n : Int) / 2) ((n : Int) % 2))) else wst (fun k => absI (misF me co s pl (k / 2) (k % 2))) n := rfl
      refine P.aload_n (dq dtX0_worstSlot 12 rfl) rfl ?_
      refine P.iload_n (dq dtX0_worstSlot 13 rfl) rfl ?_
      refine P.iconst (dq dtX0_worstSlot 14 rfl) ?_
      refine P.idiv (dq dtX0_worstSlot 15 rfl) (by omega) (by omega) (by omega) ?_
      rw [e1]
      refine P.iload_n (dq dtX0_worstSlot 16 rfl) rfl ?_
      refine P.iconst (dq dtX0_worstSlot 17 rfl) ?_
      refine P.irem (dq dtX0_worstSlot 18 rfl) (by omega) (by omega) (by omega) ?_
      rw [e2]
      refine P.callV2 (M' := mX0_missAt) (d' := d - 1) mlX0_111 mcX0_missAt mvX0_missAt (dq dtX0_worstSlot 19 rfl) (by omega) (Nat.le_of_ble_eq_true rfl) (by repeat (first | assumption | exact up_s | rw [up_n (by first | assumption | (apply Ne.symm; assumption) | decide | omega)])) rfl ?_
      refine ct_X0_missAt (me := me) (co := co) (by repeat (first | assumption | exact up_s | rw [up_n (by first | assumption | (apply Ne.symm; assumption) | decide | omega)])) (by omega) (by omega) (by repeat (first | assumption | exact up_s | rw [up_n (by first | assumption | (apply Ne.symm; assumption) | decide | omega)])) (by repeat (first | assumption | exact up_s | rw [up_n (by first | assumption | (apply Ne.symm; assumption) | decide | omega)])) (by omega) (by omega) ?_
      rw [show me ((n : Int) / 2 * 2 + (n : Int) % 2) + 60 * (co ((n : Int) / 2) - (n : Int) / 2 * s + if (n : Int) % 2 = 1 then pl else 0) = misF me co s pl ((n : Int) / 2) ((n : Int) % 2) from rfl]
      refine P.callS1 (M' := mJ9_abs_0f7a4) (d' := d - 1) mlX0_114 mcJ9_abs_0f7a4 msJ9_abs_0f7a4 (dq dtX0_worstSlot 20 rfl) (by omega) (Nat.le_of_ble_eq_true rfl) ?_
      refine ct_absI (by omega) ?_
      have hab : 0 ≤ absI (misF me co s pl ((n : Int) / 2) ((n : Int) % 2)) ∧ absI (misF me co s pl ((n : Int) / 2) ((n : Int) % 2)) ≤ 1000000 := by { unfold absI; split <;> omega }
      generalize hg : misF me co s pl ((n : Int) / 2) ((n : Int) % 2) = z at *
      refine P.istore (dq dtX0_worstSlot 21 rfl) (by decide) rfl rfl ?_
      refine P.iload (dq dtX0_worstSlot 22 rfl) rfl ?_
      refine P.iload_n (dq dtX0_worstSlot 23 rfl) rfl ?_
      refine P.icmp_le (t := 42) (dq dtX0_worstSlot 24 rfl) rfl (by omega) (by omega) (fun c_34 => ?_) (fun c_34 => ?_)
      · rw [if_neg (by omega)] at hx
        refine P.iinc (dq dtX0_worstSlot 29 rfl) rfl (by decide) rfl rfl ?_
        refine P.goto (t := 6) (dq dtX0_worstSlot 30 rfl) rfl ?_
        refine P.keep [0, 1, 2, 3] ?_
        rw [← hx]
        exact ih (n + 1) (by omega) (by omega) (by rw [hx]; omega)
      · rw [if_pos (by omega)] at hx
        refine P.iload (dq dtX0_worstSlot 25 rfl) rfl ?_
        refine P.istore_n (dq dtX0_worstSlot 26 rfl) (by decide) rfl rfl ?_
        refine P.iload_n (dq dtX0_worstSlot 27 rfl) rfl ?_
        refine P.istore_n (dq dtX0_worstSlot 28 rfl) (by decide) rfl rfl ?_
        refine P.iinc (dq dtX0_worstSlot 29 rfl) rfl (by decide) rfl rfl ?_
        refine P.goto (t := 6) (dq dtX0_worstSlot 30 rfl) rfl ?_
        refine P.keep [0, 1, 2, 3] ?_
        have e5 : ((n : Int)) = (wst (fun k => absI (misF me co s pl (k / 2) (k % 2))) (n + 1)).1 := by { rw [hx] }
        have e6 : absI z = (wst (fun k => absI (misF me co s pl (k / 2) (k % 2))) (n + 1)).2 := by { rw [hx] }
        have hk := ih (n + 1) (by omega) (by omega) (by rw [← e6]; omega)
        rw [← e5, ← e6] at hk
        exact hk
/-- Figures.worstSlot -/
theorem ct_X0_worstSlot {x : CM} {d N : Nat} {σ : PH} {Q : PQ} {q : Nat} {p s po pt pl : Int} {me co : Int → Int} (hq : σ q = fgO q p s po pt pl) (h7 : σ (q + 7) = pcI 0 8 co) (hp : 2 ≤ p ∧ p ≤ 8) (hs : 10 ≤ s ∧ s ≤ 99) (hT : TB co p) (h1 : σ (q + 1) = pcI 0 16 me) (hd : 4 ≤ d) (hmb : ∀ k : Int, 0 ≤ k → k < 2 * p → -1000000 ≤ misF me co s pl (k / 2) (k % 2) ∧ misF me co s pl (k / 2) (k % 2) ≤ 1000000) (h : Q (some (vI (wst (fun k => absI (misF me co s pl (k / 2) (k % 2))) (2 * p).toNat).1)) σ) : Call x d 0 0 mX0_worstSlot [vR q] N σ Q := by
  refine Call.of mcX0_worstSlot (Nat.le_of_ble_eq_true rfl) (fun y hy => ?_)
  subst hy
  refine P.iconst (dq dtX0_worstSlot 0 rfl) ?_
  refine P.istore_n (dq dtX0_worstSlot 1 rfl) (by decide) rfl rfl ?_
  refine P.iconst (dq dtX0_worstSlot 2 rfl) ?_
  refine P.istore_n (dq dtX0_worstSlot 3 rfl) (by decide) rfl rfl ?_
  refine P.iconst (dq dtX0_worstSlot 4 rfl) ?_
  refine P.istore_n (dq dtX0_worstSlot 5 rfl) (by decide) rfl rfl ?_
  exact lp_worst hq h7 hp hs hT h1 hd hmb h 17 0 (by omega) (by omega) (by show -1 ≤ (-1 : Int) ∧ (-1 : Int) ≤ 1000000; omega)
end
section
/-! reading: over tokens, each its kind and its value -/
def nx (m i : Int) : Int := if i < m - 1 then i + 1 else i
def addM (v : MsV) (t z : Int) : MsV := (v.1, v.2.1, addC v.2.2.1 t, addE v.2.2.1 v.2.2.2 t z)
def pNum (kd vl : Int → Int) (m lo hi i : Int) : Int × Int := if kd i = 2 ∧ lo ≤ vl i ∧ vl i ≤ hi then (vl i, nx m i) else (-1, i)
def pSg (kd vl : Int → Int) (m i : Int) : Int := if kd i = 3 ∧ vl i = 45 then nx m i else i
def pErr (kd vl : Int → Int) (m k w i : Int) (v : MsV) : Int × Int × MsV :=
  if (pNum kd vl m 0 40 (pSg kd vl m i)).1 = -1 then (0, (pNum kd vl m 0 40 (pSg kd vl m i)).2, v)
  else (1, (pNum kd vl m 0 40 (pSg kd vl m i)).2, addM v (k * 2 + w) (if kd i = 3 ∧ vl i = 45 then -(pNum kd vl m 0 40 (pSg kd vl m i)).1 else (pNum kd vl m 0 40 (pSg kd vl m i)).1))
def pRow (kd vl : Int → Int) (m w : Int) : Nat → Int → Int → MsV → Int × Int × MsV
  | 0, _, i, v => (1, i, v)
  | t + 1, k, i, v => if (pErr kd vl m k w i v).1 = 0 then pErr kd vl m k w i v else pRow kd vl m w t (k + 1) (pErr kd vl m k w i v).2.1 (pErr kd vl m k w i v).2.2
def pAxis (bg : (Int → Int) → Int → Int) (kd vl : Int → Int) (m i : Int) (v : MsV) : Int × Int × MsV :=
  if (pNum kd vl m 2 8 i).1 = -1 then (0, (pNum kd vl m 2 8 i).2, v)
  else if (pNum kd vl m 10 99 (pNum kd vl m 2 8 i).2).1 = -1 then (0, (pNum kd vl m 10 99 (pNum kd vl m 2 8 i).2).2, v)
  else (1, (pNum kd vl m 10 99 (pNum kd vl m 2 8 i).2).2, ((pNum kd vl m 2 8 i).1, (pNum kd vl m 10 99 (pNum kd vl m 2 8 i).2).1, (fun _ => 0), bg v.2.2.2))
def pOne (kd vl : Int → Int) (m i : Int) (v : MsV) : Int × Int × MsV :=
  if (pNum kd vl m 0 (v.1 - 1) i).1 = -1 then (0, (pNum kd vl m 0 (v.1 - 1) i).2, v)
  else if kd (pNum kd vl m 0 (v.1 - 1) i).2 = 1 ∧ (vl (pNum kd vl m 0 (v.1 - 1) i).2 = 0 ∨ vl (pNum kd vl m 0 (v.1 - 1) i).2 = 1) then pErr kd vl m (pNum kd vl m 0 (v.1 - 1) i).1 (vl (pNum kd vl m 0 (v.1 - 1) i).2) (nx m (pNum kd vl m 0 (v.1 - 1) i).2) v
  else (0, (pNum kd vl m 0 (v.1 - 1) i).2, v)
def pCl (bg : (Int → Int) → Int → Int) (kd vl : Int → Int) (m i : Int) (v : MsV) : Int × Int × MsV :=
  if kd i = 1 ∧ (vl i = 0 ∨ vl i = 1) then pRow kd vl m (vl i) v.1.toNat 0 (nx m i) v
  else if kd i = 1 ∧ vl i = 2 then pAxis bg kd vl m (nx m i) v
  else if kd i = 1 ∧ vl i = 3 then pOne kd vl m (nx m i) v else (0, i, v)
/-- the whole text: 1 or 0, the token, what is measured then, the clauses -/
def pTx (bg : (Int → Int) → Int → Int) (kd vl : Int → Int) (m : Int) : Nat → Int → Int → MsV → Int × Int × MsV × Int
  | 0, c, i, v => (0, i, v, c)
  | t + 1, c, i, v => if (pCl bg kd vl m i v).1 = 0 then (0, (pCl bg kd vl m i v).2.1, (pCl bg kd vl m i v).2.2, c)
    else if kd (pCl bg kd vl m i v).2.1 = 0 then (1, (pCl bg kd vl m i v).2.1, (pCl bg kd vl m i v).2.2, c)
    else if ¬ (kd (pCl bg kd vl m i v).2.1 = 3 ∧ vl (pCl bg kd vl m i v).2.1 = 59) ∨ c = 24 then (0, (pCl bg kd vl m i v).2.1, (pCl bg kd vl m i v).2.2, c)
    else pTx bg kd vl m t (c + 1) (nx m (pCl bg kd vl m i v).2.1) (pCl bg kd vl m i v).2.2
/-- tokens are within -/
def TKr (st kd vl : Int → Int) (m : Int) : Prop := (1 ≤ m ∧ m ≤ 201) ∧ ∀ i : Int, 0 ≤ i → i < m → (0 ≤ st i ∧ st i ≤ 200) ∧ (0 ≤ kd i ∧ kd i ≤ 3) ∧ -100000 ≤ vl i ∧ vl i ≤ 255
theorem nx_b {m i : Int} (h : 0 ≤ i ∧ i < m) : 0 ≤ nx m i ∧ nx m i < m := by unfold nx; split <;> omega
theorem pNum_b {kd vl : Int → Int} {m lo hi i : Int} (h : 0 ≤ i ∧ i < m) : 0 ≤ (pNum kd vl m lo hi i).2 ∧ (pNum kd vl m lo hi i).2 < m := by
  unfold pNum; split
  · exact nx_b h
  · exact h
theorem pNum_v {kd vl : Int → Int} {m lo hi i : Int} (h : (pNum kd vl m lo hi i).1 ≠ -1) : lo ≤ (pNum kd vl m lo hi i).1 ∧ (pNum kd vl m lo hi i).1 ≤ hi := by
  unfold pNum at h ⊢; split
  · next h1 => rw [if_pos h1] at h; exact h1.2
  · next h1 => rw [if_neg h1] at h; exact absurd rfl h
theorem pSg_b {kd vl : Int → Int} {m i : Int} (h : 0 ≤ i ∧ i < m) : 0 ≤ pSg kd vl m i ∧ pSg kd vl m i < m := by
  unfold pSg; split
  · exact nx_b h
  · exact h
theorem pErr_b {kd vl : Int → Int} {m k w i : Int} {v : MsV} (h : 0 ≤ i ∧ i < m) : 0 ≤ (pErr kd vl m k w i v).2.1 ∧ (pErr kd vl m k w i v).2.1 < m := by
  unfold pErr; split <;> exact pNum_b (pSg_b h)
theorem GMs_add {v : MsV} {t z : Int} (h : GMs v) (ht : 0 ≤ t ∧ t < 16) (hz : -40 ≤ z ∧ z ≤ 40) : GMs (addM v t z) := by
  refine ⟨h.1, h.2.1, fun u h0 h1 => ?_⟩
  obtain ⟨g1, g2⟩ := h.2.2 u h0 h1
  obtain ⟨g3, g4⟩ := h.2.2 t ht.1 ht.2
  show (0 ≤ addC v.2.2.1 t u ∧ addC v.2.2.1 t u ≤ 6) ∧ ∀ j : Int, 0 ≤ j ∧ j < addC v.2.2.1 t u → -40 ≤ addE v.2.2.1 v.2.2.2 t z (u * 6 + j) ∧ addE v.2.2.1 v.2.2.2 t z (u * 6 + j) ≤ 40
  by_cases e : u = t
  · subst e
    have eC : addC v.2.2.1 u u = if 6 ≤ v.2.2.1 u then 6 else v.2.2.1 u + 1 := upI_s
    rw [eC]
    refine ⟨by split <;> omega, fun j hj => ?_⟩
    unfold addE
    by_cases e6 : 6 ≤ v.2.2.1 u
    · rw [if_pos e6]
      rw [if_pos e6] at hj
      by_cases ej : j = 5
      · rw [ej, upI_s]; exact hz
      · rw [upI_n (by omega)]
        unfold cpI
        rw [if_pos (by omega)]
        have := g2 (j + 1) (by omega)
        rwa [show u * 6 + 1 + (u * 6 + j - u * 6) = u * 6 + (j + 1) by omega]
    · rw [if_neg e6]
      rw [if_neg e6] at hj
      by_cases ej : j = v.2.2.1 u
      · rw [ej, upI_s]; exact hz
      · rw [upI_n (by omega)]
        exact g2 j (by omega)
  · have eC : addC v.2.2.1 t u = v.2.2.1 u := upI_n e
    rw [eC]
    refine ⟨g1, fun j hj => ?_⟩
    have hE : addE v.2.2.1 v.2.2.2 t z (u * 6 + j) = v.2.2.2 (u * 6 + j) := by
      unfold addE
      split
      · rw [upI_n (by omega)]
        unfold cpI
        rw [if_neg (by omega)]
      · rw [upI_n (by omega)]
    rw [hE]
    exact g2 j hj
theorem pErr_G {kd vl : Int → Int} {m k w i : Int} {v : MsV} (hG : GMs v) (hk : 0 ≤ k ∧ k < v.1) (hw : w = 0 ∨ w = 1) : GMs (pErr kd vl m k w i v).2.2 ∧ (pErr kd vl m k w i v).2.2.1 = v.1 := by
  unfold pErr
  split
  · exact ⟨hG, rfl⟩
  · next h =>
    have hv := hG.1
    have := pNum_v h
    exact ⟨GMs_add hG (by omega) (by split <;> omega), rfl⟩
theorem pRow_b {kd vl : Int → Int} {m w : Int} : ∀ (t : Nat) (k i : Int) (v : MsV), (0 ≤ i ∧ i < m) → 0 ≤ (pRow kd vl m w t k i v).2.1 ∧ (pRow kd vl m w t k i v).2.1 < m := by
  intro t
  induction t with
  | zero => intro k i v h; exact h
  | succ t ih =>
    intro k i v h
    unfold pRow
    split
    · exact pErr_b h
    · exact ih _ _ _ (pErr_b h)
theorem pRow_G {kd vl : Int → Int} {m w : Int} (hw : w = 0 ∨ w = 1) : ∀ (t : Nat) (k i : Int) (v : MsV), GMs v → 0 ≤ k → k + t ≤ v.1 → GMs (pRow kd vl m w t k i v).2.2 := by
  intro t
  induction t with
  | zero => intro k i v h _ _; exact h
  | succ t ih =>
    intro k i v h h0 h1
    obtain ⟨g1, g2⟩ := pErr_G (kd := kd) (vl := vl) (m := m) (k := k) (i := i) h ⟨h0, by omega⟩ hw
    unfold pRow
    split
    · exact g1
    · exact ih _ _ _ g1 (by omega) (by rw [g2]; omega)
theorem pAxis_b {bg : (Int → Int) → Int → Int} {kd vl : Int → Int} {m i : Int} {v : MsV} (h : 0 ≤ i ∧ i < m) : 0 ≤ (pAxis bg kd vl m i v).2.1 ∧ (pAxis bg kd vl m i v).2.1 < m := by
  unfold pAxis; split
  · exact pNum_b h
  · split <;> exact pNum_b (pNum_b h)
theorem pAxis_G {bg : (Int → Int) → Int → Int} {kd vl : Int → Int} {m i : Int} {v : MsV} (hG : GMs v) : GMs (pAxis bg kd vl m i v).2.2 := by
  unfold pAxis; split
  · exact hG
  · next h1 =>
    split
    · exact hG
    · next h2 => exact ⟨pNum_v h1, pNum_v h2, fun t _ _ => ⟨by show (0 : Int) ≤ 0 ∧ (0 : Int) ≤ 6; omega, fun j hj => absurd hj (by show ¬ (0 ≤ j ∧ j < (0 : Int)); omega)⟩⟩
theorem pOne_b {kd vl : Int → Int} {m i : Int} {v : MsV} (h : 0 ≤ i ∧ i < m) : 0 ≤ (pOne kd vl m i v).2.1 ∧ (pOne kd vl m i v).2.1 < m := by
  unfold pOne; split
  · exact pNum_b h
  · split
    · exact pErr_b (nx_b (pNum_b h))
    · exact pNum_b h
theorem pOne_G {kd vl : Int → Int} {m i : Int} {v : MsV} (hG : GMs v) : GMs (pOne kd vl m i v).2.2 := by
  unfold pOne; split
  · exact hG
  · next h1 =>
    split
    · next h2 => exact (pErr_G hG (by have := pNum_v h1; omega) h2.2).1
    · exact hG
theorem pCl_b {bg : (Int → Int) → Int → Int} {kd vl : Int → Int} {m i : Int} {v : MsV} (h : 0 ≤ i ∧ i < m) : 0 ≤ (pCl bg kd vl m i v).2.1 ∧ (pCl bg kd vl m i v).2.1 < m := by
  unfold pCl; split
  · exact pRow_b _ _ _ _ (nx_b h)
  · split
    · exact pAxis_b (nx_b h)
    · split
      · exact pOne_b (nx_b h)
      · exact h
theorem pCl_G {bg : (Int → Int) → Int → Int} {kd vl : Int → Int} {m i : Int} {v : MsV} (hG : GMs v) : GMs (pCl bg kd vl m i v).2.2 := by
  unfold pCl; split
  · next h1 => exact pRow_G h1.2 _ _ _ _ hG (by omega) (by have := hG.1; omega)
  · split
    · exact pAxis_G hG
    · split
      · exact pOne_G hG
      · exact hG
theorem pTx_G {bg : (Int → Int) → Int → Int} {kd vl : Int → Int} {m : Int} : ∀ (t : Nat) (c i : Int) (v : MsV), GMs v → GMs (pTx bg kd vl m t c i v).2.2.1 := by
  intro t
  induction t with
  | zero => intro c i v h; exact h
  | succ t ih =>
    intro c i v h
    have := pCl_G (bg := bg) (kd := kd) (vl := vl) (m := m) (i := i) h
    unfold pTx; split
    · exact this
    · split
      · exact this
      · split
        · exact this
        · exact ih _ _ _ this
end
section
/-- the reader at q: starts, kinds, values; how many tokens, the token, the clauses -/
abbrev rdO (q : Nat) (m i c : Int) : PC := pcO 5 [vR (q + 1), vR (q + 2), vR (q + 3), vI m, vI i, vI c]
def Rd (σ : PH) (q : Nat) (st kd vl : Int → Int) (m i c : Int) : Prop := σ q = rdO q m i c ∧ σ (q + 1) = pcI 0 201 st ∧ σ (q + 2) = pcI 0 201 kd ∧ σ (q + 3) = pcI 0 201 vl
theorem Rd.fr {σ σ' : PH} {q : Nat} {st kd vl : Int → Int} {m i c : Int} {S : List Nat} (h : Rd σ q st kd vl m i c) (hF : Fr σ σ' S) (h0 : q ∉ S) (h1 : q + 1 ∉ S) (h2 : q + 2 ∉ S) (h3 : q + 3 ∉ S) : Rd σ' q st kd vl m i c := ⟨(hF _ h0).trans h.1, (hF _ h1).trans h.2.1, (hF _ h2).trans h.2.2.1, (hF _ h3).trans h.2.2.2⟩
theorem Rd.up {σ : PH} {q : Nat} {st kd vl : Int → Int} {m i c i' c' : Int} (h : Rd σ q st kd vl m i c) : Rd (up σ q (rdO q m i' c')) q st kd vl m i' c' := ⟨up_s, (up_n (by omega)).trans h.2.1, (up_n (by omega)).trans h.2.2.1, (up_n (by omega)).trans h.2.2.2⟩
/-- Reader.goOn -/
theorem ct_X5_goOn {x : CM} {d N : Nat} {σ : PH} {Q : PQ} {q : Nat} {st kd vl : Int → Int} {m i c : Int} (hR : Rd σ q st kd vl m i c) (hT : TKr st kd vl m) (hi : 0 ≤ i ∧ i < m) (h : ∀ σ' : PH, Rd σ' q st kd vl m (nx m i) c → Fr σ σ' [q] → Q none σ') : Call x d 0 0 mX5_goOn [vR q] N σ Q := by
  refine Call.of mcX5_goOn (Nat.le_of_ble_eq_true rfl) (fun y hy => ?_)
  subst hy
  obtain ⟨hq, h1, h2, h3⟩ := id hR
  have hm := hT.1
  obtain ⟨t1, t2, t3⟩ := hT.2 i hi.1 hi.2
  unfold nx at h
  refine P.aload_n (dq dtX5_goOn 0 rfl) rfl ?_
  refine P.get flX5_25 (dq dtX5_goOn 1 rfl) (by repeat (first | assumption | exact up_s | rw [up_n (by first | assumption | (apply Ne.symm; assumption) | decide | omega)])) (by rfl) ?_
  refine P.aload_n (dq dtX5_goOn 2 rfl) rfl ?_
  refine P.get flX5_21 (dq dtX5_goOn 3 rfl) (by repeat (first | assumption | exact up_s | rw [up_n (by first | assumption | (apply Ne.symm; assumption) | decide | omega)])) (by rfl) ?_
  refine P.iconst (dq dtX5_goOn 4 rfl) ?_
  refine P.isub (dq dtX5_goOn 5 rfl) ?_
  refine P.icmp_ge (t := 23) (dq dtX5_goOn 6 rfl) rfl (by omega) (by omega) (fun c_10 => ?_) (fun c_10 => ?_)
  · refine P.vret (dq dtX5_goOn 13 rfl) rfl rfl rfl ?_
    first | (rw [if_pos (show i < m - 1 by omega)] at h; exact h _ hR.up (by repeat (first | assumption | exact Fr.rf | refine Fr.up ?_ (by simp)))) | (rw [if_neg (show ¬ i < m - 1 by omega)] at h; exact h _ hR Fr.rf)
  · refine P.aload_n (dq dtX5_goOn 7 rfl) rfl ?_
    refine P.dup (dq dtX5_goOn 8 rfl) rfl ?_
    refine P.get flX5_25 (dq dtX5_goOn 9 rfl) (by repeat (first | assumption | exact up_s | rw [up_n (by first | assumption | (apply Ne.symm; assumption) | decide | omega)])) (by rfl) ?_
    refine P.iconst (dq dtX5_goOn 10 rfl) ?_
    refine P.iadd (dq dtX5_goOn 11 rfl) ?_
    refine P.put flX5_25 rfl (dq dtX5_goOn 12 rfl) (by repeat (first | assumption | exact up_s | rw [up_n (by first | assumption | (apply Ne.symm; assumption) | decide | omega)])) (by exact Nat.le_of_ble_eq_true rfl) rfl rfl rfl rfl rfl ?_
    refine P.vret (dq dtX5_goOn 13 rfl) rfl rfl rfl ?_
    first | (rw [if_pos (show i < m - 1 by omega)] at h; exact h _ hR.up (by repeat (first | assumption | exact Fr.rf | refine Fr.up ?_ (by simp)))) | (rw [if_neg (show ¬ i < m - 1 by omega)] at h; exact h _ hR Fr.rf)
/-- Reader.isSign -/
theorem ct_X5_isSign {x : CM} {d N : Nat} {σ : PH} {Q : PQ} {q : Nat} {st kd vl : Int → Int} {m i c : Int} (hR : Rd σ q st kd vl m i c) (hT : TKr st kd vl m) (hi : 0 ≤ i ∧ i < m) {z : Int} (hz : inR z) (ht : kd i = 3 ∧ vl i = z → Q (some (vI 1)) σ) (hf : ¬ (kd i = 3 ∧ vl i = z) → Q (some (vI 0)) σ) : Call x d 0 0 mX5_isSign [vR q, vI z] N σ Q := by
  refine Call.of mcX5_isSign (Nat.le_of_ble_eq_true rfl) (fun y hy => ?_)
  subst hy
  obtain ⟨hq, h1, h2, h3⟩ := id hR
  have hm := hT.1
  obtain ⟨t1, t2, t3⟩ := hT.2 i hi.1 hi.2
  refine P.aload_n (dq dtX5_isSign 0 rfl) rfl ?_
  refine P.get flX5_15 (dq dtX5_isSign 1 rfl) (by repeat (first | assumption | exact up_s | rw [up_n (by first | assumption | (apply Ne.symm; assumption) | decide | omega)])) (by rfl) ?_
  refine P.aload_n (dq dtX5_isSign 2 rfl) rfl ?_
  refine P.get flX5_25 (dq dtX5_isSign 3 rfl) (by repeat (first | assumption | exact up_s | rw [up_n (by first | assumption | (apply Ne.symm; assumption) | decide | omega)])) (by rfl) ?_
  refine P.iald (dq dtX5_isSign 4 rfl) (by repeat (first | assumption | exact up_s | rw [up_n (by first | assumption | (apply Ne.symm; assumption) | decide | omega)])) (by omega) (by omega) (by omega) ?_
  refine P.iconst (dq dtX5_isSign 5 rfl) ?_
  refine P.icmp_ne (t := 30) (dq dtX5_isSign 6 rfl) rfl (by omega) (by omega) (fun c_10 => ?_) (fun c_10 => ?_)
  · refine P.iconst (dq dtX5_isSign 16 rfl) ?_
    refine P.zret (dq dtX5_isSign 17 rfl) rfl rfl (by decide) rfl ?_
    first | exact ht (by omega) | exact hf (by omega)
  · refine P.aload_n (dq dtX5_isSign 7 rfl) rfl ?_
    refine P.get flX5_18 (dq dtX5_isSign 8 rfl) (by repeat (first | assumption | exact up_s | rw [up_n (by first | assumption | (apply Ne.symm; assumption) | decide | omega)])) (by rfl) ?_
    refine P.aload_n (dq dtX5_isSign 9 rfl) rfl ?_
    refine P.get flX5_25 (dq dtX5_isSign 10 rfl) (by repeat (first | assumption | exact up_s | rw [up_n (by first | assumption | (apply Ne.symm; assumption) | decide | omega)])) (by rfl) ?_
    refine P.iald (dq dtX5_isSign 11 rfl) (by repeat (first | assumption | exact up_s | rw [up_n (by first | assumption | (apply Ne.symm; assumption) | decide | omega)])) (by omega) (by omega) (by omega) ?_
    refine P.iload_n (dq dtX5_isSign 12 rfl) rfl ?_
    refine P.icmp_ne (t := 30) (dq dtX5_isSign 13 rfl) rfl (by omega) (by omega) (fun c_23 => ?_) (fun c_23 => ?_)
    · refine P.iconst (dq dtX5_isSign 16 rfl) ?_
      refine P.zret (dq dtX5_isSign 17 rfl) rfl rfl (by decide) rfl ?_
      first | exact ht (by omega) | exact hf (by omega)
    · refine P.iconst (dq dtX5_isSign 14 rfl) ?_
      refine P.goto (t := 31) (dq dtX5_isSign 15 rfl) rfl ?_
      refine P.zret (dq dtX5_isSign 17 rfl) rfl rfl (by decide) rfl ?_
      first | exact ht (by omega) | exact hf (by omega)
/-- Reader.readNumber -/
theorem ct_X5_readNumber {x : CM} {d N : Nat} {σ : PH} {Q : PQ} {q : Nat} {st kd vl : Int → Int} {m i c : Int} (hR : Rd σ q st kd vl m i c) (hT : TKr st kd vl m) (hi : 0 ≤ i ∧ i < m) (hd : 1 ≤ d) {lo hi2 : Int} (hlo : inR lo ∧ 0 ≤ lo) (hhi : inR hi2) (h : ∀ σ' : PH, Rd σ' q st kd vl m (pNum kd vl m lo hi2 i).2 c → Fr σ σ' [q] → Q (some (vI (pNum kd vl m lo hi2 i).1)) σ') : Call x d 0 0 mX5_readNumber [vR q, vI lo, vI hi2] N σ Q := by
  refine Call.of mcX5_readNumber (Nat.le_of_ble_eq_true rfl) (fun y hy => ?_)
  subst hy
  obtain ⟨hq, h1, h2, h3⟩ := id hR
  have hm := hT.1
  obtain ⟨t1, t2, t3⟩ := hT.2 i hi.1 hi.2
  unfold pNum at h
  refine P.aload_n (dq dtX5_readNumber 0 rfl) rfl ?_
  refine P.get flX5_18 (dq dtX5_readNumber 1 rfl) (by repeat (first | assumption | exact up_s | rw [up_n (by first | assumption | (apply Ne.symm; assumption) | decide | omega)])) (by rfl) ?_
  refine P.aload_n (dq dtX5_readNumber 2 rfl) rfl ?_
  refine P.get flX5_25 (dq dtX5_readNumber 3 rfl) (by repeat (first | assumption | exact up_s | rw [up_n (by first | assumption | (apply Ne.symm; assumption) | decide | omega)])) (by rfl) ?_
  refine P.iald (dq dtX5_readNumber 4 rfl) (by repeat (first | assumption | exact up_s | rw [up_n (by first | assumption | (apply Ne.symm; assumption) | decide | omega)])) (by omega) (by omega) (by omega) ?_
  refine P.istore_n (dq dtX5_readNumber 5 rfl) (by decide) rfl rfl ?_
  refine P.aload_n (dq dtX5_readNumber 6 rfl) rfl ?_
  refine P.get flX5_15 (dq dtX5_readNumber 7 rfl) (by repeat (first | assumption | exact up_s | rw [up_n (by first | assumption | (apply Ne.symm; assumption) | decide | omega)])) (by rfl) ?_
  refine P.aload_n (dq dtX5_readNumber 8 rfl) rfl ?_
  refine P.get flX5_25 (dq dtX5_readNumber 9 rfl) (by repeat (first | assumption | exact up_s | rw [up_n (by first | assumption | (apply Ne.symm; assumption) | decide | omega)])) (by rfl) ?_
  refine P.iald (dq dtX5_readNumber 10 rfl) (by repeat (first | assumption | exact up_s | rw [up_n (by first | assumption | (apply Ne.symm; assumption) | decide | omega)])) (by omega) (by omega) (by omega) ?_
  refine P.iconst (dq dtX5_readNumber 11 rfl) ?_
  refine P.icmp_ne (t := 33) (dq dtX5_readNumber 12 rfl) rfl (by omega) (by omega) (fun c_20 => ?_) (fun c_20 => ?_)
  · refine P.iconst (dq dtX5_readNumber 19 rfl) ?_
    refine P.iret (dq dtX5_readNumber 20 rfl) rfl rfl rfl ?_
    rw [if_neg (by omega)] at h
    exact h _ hR Fr.rf
  · refine P.iload_n (dq dtX5_readNumber 13 rfl) rfl ?_
    refine P.iload_n (dq dtX5_readNumber 14 rfl) rfl ?_
    refine P.icmp_lt (t := 33) (dq dtX5_readNumber 15 rfl) rfl (by omega) (by omega) (fun c_25 => ?_) (fun c_25 => ?_)
    · refine P.iconst (dq dtX5_readNumber 19 rfl) ?_
      refine P.iret (dq dtX5_readNumber 20 rfl) rfl rfl rfl ?_
      rw [if_neg (by omega)] at h
      exact h _ hR Fr.rf
    · refine P.iload_n (dq dtX5_readNumber 16 rfl) rfl ?_
      refine P.iload_n (dq dtX5_readNumber 17 rfl) rfl ?_
      refine P.icmp_le (t := 35) (dq dtX5_readNumber 18 rfl) rfl (by omega) (by omega) (fun c_30 => ?_) (fun c_30 => ?_)
      · refine P.aload_n (dq dtX5_readNumber 21 rfl) rfl ?_
        refine P.callV0 (M' := mX5_goOn) (d' := d - 1) mlX5_43 mcX5_goOn mvX5_goOn (dq dtX5_readNumber 22 rfl) (by omega) (Nat.le_of_ble_eq_true rfl) (by repeat (first | assumption | exact up_s | rw [up_n (by first | assumption | (apply Ne.symm; assumption) | decide | omega)])) rfl ?_
        refine ct_X5_goOn hR hT hi (fun σ1 hR1 hF1 => ?_)
        refine P.iload_n (dq dtX5_readNumber 23 rfl) rfl ?_
        refine P.iret (dq dtX5_readNumber 24 rfl) rfl rfl rfl ?_
        rw [if_pos (by omega)] at h
        exact h _ hR1 hF1
      · refine P.iconst (dq dtX5_readNumber 19 rfl) ?_
        refine P.iret (dq dtX5_readNumber 20 rfl) rfl rfl rfl ?_
        rw [if_neg (by omega)] at h
        exact h _ hR Fr.rf
theorem re_mid {x : CX} {d N : Nat} {σ : PH} {Q : PQ} {q mq : Nat} {st kd vl : Int → Int} {m i c : Int} {v : MsV} (hR : Rd σ q st kd vl m i c) (hT : TKr st kd vl m) (hi : 0 ≤ i ∧ i < m) (hM : Ms σ mq v) (hG : GMs v) (hqq : q + 3 < mq ∨ mq + 2 < q) (hd : 3 ≤ d) {k w b : Int} (hk : 0 ≤ k ∧ k < v.1) (hw : w = 0 ∨ w = 1) (hb : b = 0 ∨ b = 1) (h0 : (pNum kd vl m 0 40 i).1 = -1 → ∀ σ' : PH, Rd σ' q st kd vl m (pNum kd vl m 0 40 i).2 c → Ms σ' mq v → Fr σ σ' [q, mq, mq + 1, mq + 2] → Q (some (vI 0)) σ')
    (h1 : (pNum kd vl m 0 40 i).1 ≠ -1 → ∀ σ' : PH, Rd σ' q st kd vl m (pNum kd vl m 0 40 i).2 c → Ms σ' mq (addM v (k * 2 + w) (if b = 1 then -(pNum kd vl m 0 40 i).1 else (pNum kd vl m 0 40 i).1)) → Fr σ σ' [q, mq, mq + 1, mq + 2] → Q (some (vI 1)) σ') : P x d mX5_readErr Q (0, 0) 17 [some (vR q), some (vR mq), some (vI k), some (vI w), some (vI b), none] [] N σ := by
  obtain ⟨hq, a1, a2, a3⟩ := id hR
  have hm := hT.1
  have hv := hG.1
  have hMq := hM.1
  have hgc := hG.2.2 (k * 2 + w) (by omega) (by omega)
  refine P.aload_n (dq dtX5_readErr 8 rfl) rfl ?_
  refine P.iconst (dq dtX5_readErr 9 rfl) ?_
  refine P.bipush (dq dtX5_readErr 10 rfl) rfl ?_
  refine P.callV2 (M' := mX5_readNumber) (d' := d - 1) mlX5_83 mcX5_readNumber mvX5_readNumber (dq dtX5_readErr 11 rfl) (by omega) (Nat.le_of_ble_eq_true rfl) (by repeat (first | assumption | exact up_s | rw [up_n (by first | assumption | (apply Ne.symm; assumption) | decide | omega)])) rfl ?_
  refine ct_X5_readNumber hR hT hi (by omega) (by omega) (by omega) (fun σ1 hR1 hF1 => ?_)
  have hM1 : Ms σ1 mq v := hM.fr hF1 (by simp <;> omega) (by simp <;> omega) (by simp <;> omega)
  have hnv := pNum_v (kd := kd) (vl := vl) (m := m) (lo := 0) (hi := 40) (i := i)
  have hnb : inR (pNum kd vl m 0 40 i).1 := by { by_cases e : (pNum kd vl m 0 40 i).1 = -1; rw [e]; omega; have := hnv e; omega }
  generalize (pNum kd vl m 0 40 i).1 = z at *
  have hMq1 := hM1.1
  refine P.istore (dq dtX5_readErr 12 rfl) (by decide) rfl rfl ?_
  refine P.iload (dq dtX5_readErr 13 rfl) rfl ?_
  refine P.iconst (dq dtX5_readErr 14 rfl) ?_
  refine P.icmp_ne (t := 34) (dq dtX5_readErr 15 rfl) rfl (by omega) (by omega) (fun c_29 => ?_) (fun c_29 => ?_)
  · refine P.aload_n (dq dtX5_readErr 18 rfl) rfl ?_
    refine P.iload_n (dq dtX5_readErr 19 rfl) rfl ?_
    refine P.iload_n (dq dtX5_readErr 20 rfl) rfl ?_
    refine P.iload (dq dtX5_readErr 21 rfl) rfl ?_
    refine P.if_eq (t := 48) (dq dtX5_readErr 22 rfl) rfl (by omega) (fun c_39 => ?_) (fun c_39 => ?_)
    · refine P.iload (dq dtX5_readErr 26 rfl) rfl ?_
      refine P.callV3 (M' := mX2_add) (d' := d - 1) mlX5_102 mcX2_add mvX2_add (dq dtX5_readErr 27 rfl) (by omega) (Nat.le_of_ble_eq_true rfl) (by repeat (first | assumption | exact up_s | rw [up_n (by first | assumption | (apply Ne.symm; assumption) | decide | omega)])) rfl ?_
      refine ct_X2_add hM1 (by omega) (by omega) (by omega) (by omega) hgc.1 (fun σ2 hM2 hF2 => ?_)
      refine P.pop (dq dtX5_readErr 28 rfl) rfl ?_
      refine P.iconst (dq dtX5_readErr 29 rfl) ?_
      refine P.zret (dq dtX5_readErr 30 rfl) rfl rfl (by decide) rfl ?_
      first | (rw [if_pos (show b = 1 by omega)] at h1; exact h1 (by omega) σ2 (hR1.fr hF2 (by simp <;> omega) (by simp <;> omega) (by simp <;> omega) (by simp <;> omega)) hM2 ((hF1.wide (by simp)).trans (hF2.wide (by simp)))) | (rw [if_neg (show ¬ b = 1 by omega)] at h1; exact h1 (by omega) σ2 (hR1.fr hF2 (by simp <;> omega) (by simp <;> omega) (by simp <;> omega) (by simp <;> omega)) hM2 ((hF1.wide (by simp)).trans (hF2.wide (by simp))))
    · refine P.iload (dq dtX5_readErr 23 rfl) rfl ?_
      refine P.ineg (dq dtX5_readErr 24 rfl) ?_
      refine P.goto (t := 50) (dq dtX5_readErr 25 rfl) rfl ?_
      refine P.callV3 (M' := mX2_add) (d' := d - 1) mlX5_102 mcX2_add mvX2_add (dq dtX5_readErr 27 rfl) (by omega) (Nat.le_of_ble_eq_true rfl) (by repeat (first | assumption | exact up_s | rw [up_n (by first | assumption | (apply Ne.symm; assumption) | decide | omega)])) rfl ?_
      refine ct_X2_add hM1 (by omega) (by omega) (by omega) (by omega) hgc.1 (fun σ2 hM2 hF2 => ?_)
      refine P.pop (dq dtX5_readErr 28 rfl) rfl ?_
      refine P.iconst (dq dtX5_readErr 29 rfl) ?_
      refine P.zret (dq dtX5_readErr 30 rfl) rfl rfl (by decide) rfl ?_
      first | (rw [if_pos (show b = 1 by omega)] at h1; exact h1 (by omega) σ2 (hR1.fr hF2 (by simp <;> omega) (by simp <;> omega) (by simp <;> omega) (by simp <;> omega)) hM2 ((hF1.wide (by simp)).trans (hF2.wide (by simp)))) | (rw [if_neg (show ¬ b = 1 by omega)] at h1; exact h1 (by omega) σ2 (hR1.fr hF2 (by simp <;> omega) (by simp <;> omega) (by simp <;> omega) (by simp <;> omega)) hM2 ((hF1.wide (by simp)).trans (hF2.wide (by simp))))
  · refine P.iconst (dq dtX5_readErr 16 rfl) ?_
    refine P.zret (dq dtX5_readErr 17 rfl) rfl rfl (by decide) rfl ?_
    exact h0 (by omega) σ1 hR1 hM1 (hF1.wide (by simp))
/-- Reader.readErr -/
theorem ct_X5_readErr {x : CM} {d N : Nat} {σ : PH} {Q : PQ} {q mq : Nat} {st kd vl : Int → Int} {m i c : Int} {v : MsV} (hR : Rd σ q st kd vl m i c) (hT : TKr st kd vl m) (hi : 0 ≤ i ∧ i < m) (hM : Ms σ mq v) (hG : GMs v) (hqq : q + 3 < mq ∨ mq + 2 < q) (hd : 3 ≤ d) {k w : Int} (hk : 0 ≤ k ∧ k < v.1) (hw : w = 0 ∨ w = 1) (h : ∀ σ' : PH, Rd σ' q st kd vl m (pErr kd vl m k w i v).2.1 c → Ms σ' mq (pErr kd vl m k w i v).2.2 → Fr σ σ' [q, mq, mq + 1, mq + 2] → Q (some (vI (pErr kd vl m k w i v).1)) σ') : Call x d 0 0 mX5_readErr [vR q, vR mq, vI k, vI w] N σ Q := by
  refine Call.of mcX5_readErr (Nat.le_of_ble_eq_true rfl) (fun y hy => ?_)
  subst hy
  obtain ⟨hq, h1, h2, h3⟩ := id hR
  have hm := hT.1
  obtain ⟨t1, t2, t3⟩ := hT.2 i hi.1 hi.2
  unfold pErr at h
  refine P.aload_n (dq dtX5_readErr 0 rfl) rfl ?_
  refine P.bipush (dq dtX5_readErr 1 rfl) rfl ?_
  refine P.callV1 (M' := mX5_isSign) (d' := d - 1) mlX5_39 mcX5_isSign mvX5_isSign (dq dtX5_readErr 2 rfl) (by omega) (Nat.le_of_ble_eq_true rfl) (by repeat (first | assumption | exact up_s | rw [up_n (by first | assumption | (apply Ne.symm; assumption) | decide | omega)])) rfl ?_
  refine ct_X5_isSign hR hT hi (by omega) (fun n_3 => ?_) (fun n_3 => ?_)
  · refine P.istore (dq dtX5_readErr 3 rfl) (by decide) rfl rfl ?_
    refine P.iload (dq dtX5_readErr 4 rfl) rfl ?_
    refine P.if_eq (t := 17) (dq dtX5_readErr 5 rfl) rfl (by omega) (fun h9 => absurd h9 (by decide)) (fun _ => ?_)
    refine P.aload_n (dq dtX5_readErr 6 rfl) rfl ?_
    refine P.callV0 (M' := mX5_goOn) (d' := d - 1) mlX5_43 mcX5_goOn mvX5_goOn (dq dtX5_readErr 7 rfl) (by omega) (Nat.le_of_ble_eq_true rfl) (by repeat (first | assumption | exact up_s | rw [up_n (by first | assumption | (apply Ne.symm; assumption) | decide | omega)])) rfl ?_
    refine ct_X5_goOn hR hT hi (fun σ1 hR1 hF1 => ?_)
    have eS : pSg kd vl m i = nx m i := if_pos n_3
    rw [eS, if_pos n_3] at h
    have hM1 : Ms σ1 mq v := hM.fr hF1 (by simp <;> omega) (by simp <;> omega) (by simp <;> omega)
    first | (refine P.keep [0, 1, 2, 3, 4] ?_; refine re_mid hR1 hT (nx_b hi) hM1 hG hqq hd hk hw (by decide) (fun h9 σ2 q1 q2 q3 => ?_) (fun h9 σ2 q1 q2 q3 => ?_); (rw [if_pos h9] at h; exact h σ2 q1 q2 ((hF1.wide (by simp)).trans q3)); (rw [if_neg h9] at h; exact h σ2 q1 q2 ((hF1.wide (by simp)).trans q3))) | (have eS : pSg kd vl m i = i := if_neg n_3; rw [eS, if_neg n_3] at h; refine P.keep [0, 1, 2, 3, 4] ?_; refine re_mid hR hT hi hM hG hqq hd hk hw (by decide) (fun h9 σ2 q1 q2 q3 => ?_) (fun h9 σ2 q1 q2 q3 => ?_); (rw [if_pos h9] at h; exact h σ2 q1 q2 q3); (rw [if_neg h9] at h; exact h σ2 q1 q2 q3))
  · refine P.istore (dq dtX5_readErr 3 rfl) (by decide) rfl rfl ?_
    refine P.iload (dq dtX5_readErr 4 rfl) rfl ?_
    refine P.if_eq (t := 17) (dq dtX5_readErr 5 rfl) rfl (by omega) (fun _ => ?_) (fun h9 => absurd h9 (by decide))
    first | (refine P.keep [0, 1, 2, 3, 4] ?_; refine re_mid hR1 hT (nx_b hi) hM1 hG hqq hd hk hw (by decide) (fun h9 σ2 q1 q2 q3 => ?_) (fun h9 σ2 q1 q2 q3 => ?_); (rw [if_pos h9] at h; exact h σ2 q1 q2 ((hF1.wide (by simp)).trans q3)); (rw [if_neg h9] at h; exact h σ2 q1 q2 ((hF1.wide (by simp)).trans q3))) | (have eS : pSg kd vl m i = i := if_neg n_3; rw [eS, if_neg n_3] at h; refine P.keep [0, 1, 2, 3, 4] ?_; refine re_mid hR hT hi hM hG hqq hd hk hw (by decide) (fun h9 σ2 q1 q2 q3 => ?_) (fun h9 σ2 q1 q2 q3 => ?_); (rw [if_pos h9] at h; exact h σ2 q1 q2 q3); (rw [if_neg h9] at h; exact h σ2 q1 q2 q3))
end
section
theorem lp_readRow {x : CX} {d N : Nat} {Q : PQ} {q mq : Nat} {st kd vl : Int → Int} {m c w : Int} (hT : TKr st kd vl m) (hqq : q + 3 < mq ∨ mq + 2 < q) (hd : 4 ≤ d) (hw : w = 0 ∨ w = 1) : ∀ (t : Nat) (k i : Int) (v : MsV) (σ : PH), GMs v → 0 ≤ k → k + t = v.1 → (0 ≤ i ∧ i < m) → Rd σ q st kd vl m i c → Ms σ mq v → (∀ σ' : PH, Rd σ' q st kd vl m (pRow kd vl m w t k i v).2.1 c → Ms σ' mq (pRow kd vl m w t k i v).2.2 → Fr σ σ' [q, mq, mq + 1, mq + 2] → Q (some (vI (pRow kd vl m w t k i v).1)) σ') → P x d mX5_readRow Q (0, 0) 2 [some (vR q), some (vR mq), some (vI w), some (vI k)] [] N σ := by
  intro t
  induction t with
  | zero =>
    intro k i v σ hG hk ht hi hR hM h
    have hv := hG.1
    have hMq := hM.1
    have hRq := hR.1
    refine P.iload_n (dq dtX5_readRow 2 rfl) rfl ?_
    refine P.aload_n (dq dtX5_readRow 3 rfl) rfl ?_
    refine P.get flX5_92 (dq dtX5_readRow 4 rfl) (by repeat (first | assumption | exact up_s | rw [up_n (by first | assumption | (apply Ne.symm; assumption) | decide | omega)])) (by rfl) ?_
    refine P.icmp_ge (t := 28) (dq dtX5_readRow 5 rfl) rfl (by omega) (by omega) (fun c_7 => ?_) (fun c_7 => ?_)
    · refine P.iconst (dq dtX5_readRow 16 rfl) ?_
      refine P.zret (dq dtX5_readRow 17 rfl) rfl rfl (by decide) rfl ?_
      exact h σ hR hM Fr.rf
    · exfalso; omega
  | succ t ih =>
    intro k i v σ hG hk ht hi hR hM h
    have hv := hG.1
    have hMq := hM.1
    have hRq := hR.1
    obtain ⟨g1, g2⟩ := pErr_G (kd := kd) (vl := vl) (m := m) (k := k) (i := i) hG ⟨hk, by omega⟩ hw
    have gb := pErr_b (kd := kd) (vl := vl) (m := m) (k := k) (w := w) (i := i) (v := v) hi
    have hx : pRow kd vl m w (t + 1) k i v = if (pErr kd vl m k w i v).1 = 0 then pErr kd vl m k w i v else pRow kd vl m w t (k + 1) (pErr kd vl m k w i v).2.1 (pErr kd vl m k w i v).2.2 := rfl
    rw [hx] at h
    have e01 : (pErr kd vl m k w i v).1 = 0 ∨ (pErr kd vl m k w i v).1 = 1 := by { unfold pErr; split <;> simp }
    refine P.iload_n (dq dtX5_readRow 2 rfl) rfl ?_
    refine P.aload_n (dq dtX5_readRow 3 rfl) rfl ?_
    refine P.get flX5_92 (dq dtX5_readRow 4 rfl) (by repeat (first | assumption | exact up_s | rw [up_n (by first | assumption | (apply Ne.symm; assumption) | decide | omega)])) (by rfl) ?_
    refine P.icmp_ge (t := 28) (dq dtX5_readRow 5 rfl) rfl (by omega) (by omega) (fun c_7 => ?_) (fun c_7 => ?_)
    · exfalso; omega
    · refine P.aload_n (dq dtX5_readRow 6 rfl) rfl ?_
      refine P.aload_n (dq dtX5_readRow 7 rfl) rfl ?_
      refine P.iload_n (dq dtX5_readRow 8 rfl) rfl ?_
      refine P.iload_n (dq dtX5_readRow 9 rfl) rfl ?_
      refine P.callV3 (M' := mX5_readErr) (d' := d - 1) mlX5_95 mcX5_readErr mvX5_readErr (dq dtX5_readRow 10 rfl) (by omega) (Nat.le_of_ble_eq_true rfl) (by repeat (first | assumption | exact up_s | rw [up_n (by first | assumption | (apply Ne.symm; assumption) | decide | omega)])) rfl ?_
      refine ct_X5_readErr hR hT hi hM hG hqq (by omega) ⟨hk, by omega⟩ hw (fun σ1 hR1 hM1 hF1 => ?_)
      generalize hr : pErr kd vl m k w i v = r at *
      refine P.if_ne (t := 22) (dq dtX5_readRow 11 rfl) rfl (by omega) (fun c_17 => ?_) (fun c_17 => ?_)
      · refine P.iinc (dq dtX5_readRow 14 rfl) rfl (by decide) rfl rfl ?_
        refine P.goto (t := 2) (dq dtX5_readRow 15 rfl) rfl ?_
        rw [if_neg (by omega)] at h
        exact ih (k + 1) r.2.1 r.2.2 σ1 g1 (by omega) (by omega) gb hR1 hM1 (fun σ' q1 q2 q3 => h σ' q1 q2 (hF1.trans q3))
      · refine P.iconst (dq dtX5_readRow 12 rfl) ?_
        refine P.zret (dq dtX5_readRow 13 rfl) rfl rfl (by decide) rfl ?_
        rw [if_pos (by omega)] at h
        have e0 : r.1 = 0 := by omega
        rw [e0] at h
        exact h σ1 hR1 hM1 hF1
/-- Reader.readRow -/
theorem ct_X5_readRow {x : CM} {d N : Nat} {σ : PH} {Q : PQ} {q mq : Nat} {st kd vl : Int → Int} {m i c : Int} {v : MsV} (hR : Rd σ q st kd vl m i c) (hT : TKr st kd vl m) (hi : 0 ≤ i ∧ i < m) (hM : Ms σ mq v) (hG : GMs v) (hqq : q + 3 < mq ∨ mq + 2 < q) (hd : 4 ≤ d) {w : Int} (hw : w = 0 ∨ w = 1) (h : ∀ σ' : PH, Rd σ' q st kd vl m (pRow kd vl m w v.1.toNat 0 i v).2.1 c → Ms σ' mq (pRow kd vl m w v.1.toNat 0 i v).2.2 → Fr σ σ' [q, mq, mq + 1, mq + 2] → Q (some (vI (pRow kd vl m w v.1.toNat 0 i v).1)) σ') : Call x d 0 0 mX5_readRow [vR q, vR mq, vI w] N σ Q := by
  refine Call.of mcX5_readRow (Nat.le_of_ble_eq_true rfl) (fun y hy => ?_)
  subst hy
  refine P.iconst (dq dtX5_readRow 0 rfl) ?_
  refine P.istore_n (dq dtX5_readRow 1 rfl) (by decide) rfl rfl ?_
  have hv := hG.1
  exact lp_readRow hT hqq hd hw v.1.toNat 0 i v σ hG (by omega) (by omega) hi hR hM h
/-- Reader.readAxis -/
theorem ct_X5_readAxis {x : CM} {d N : Nat} {σ : PH} {Q : PQ} {q mq : Nat} {st kd vl : Int → Int} {m i c : Int} {v : MsV} (hR : Rd σ q st kd vl m i c) (hT : TKr st kd vl m) (hi : 0 ≤ i ∧ i < m) (hM : Ms σ mq v) (hG : GMs v) (hqq : q + 3 < mq ∨ mq + 2 < q) (hd : 3 ≤ d) (h : ∀ σ' : PH, Rd σ' q st kd vl m (pAxis (fun f => f) kd vl m i v).2.1 c → Ms σ' mq (pAxis (fun f => f) kd vl m i v).2.2 → Fr σ σ' [q, mq, mq + 1, mq + 2] → Q (some (vI (pAxis (fun f => f) kd vl m i v).1)) σ') : Call x d 0 0 mX5_readAxis [vR q, vR mq] N σ Q := by
  refine Call.of mcX5_readAxis (Nat.le_of_ble_eq_true rfl) (fun y hy => ?_)
  subst hy
  have hRq := hR.1
  have hm := hT.1
  unfold pAxis at h
  refine P.aload_n (dq dtX5_readAxis 0 rfl) rfl ?_
  refine P.iconst (dq dtX5_readAxis 1 rfl) ?_
  refine P.bipush (dq dtX5_readAxis 2 rfl) rfl ?_
  refine P.callV2 (M' := mX5_readNumber) (d' := d - 1) mlX5_83 mcX5_readNumber mvX5_readNumber (dq dtX5_readAxis 3 rfl) (by omega) (Nat.le_of_ble_eq_true rfl) (by repeat (first | assumption | exact up_s | rw [up_n (by first | assumption | (apply Ne.symm; assumption) | decide | omega)])) rfl ?_
  refine ct_X5_readNumber hR hT hi (by omega) (by omega) (by omega) (fun σ1 hR1 hF1 => ?_)
  have hM1 : Ms σ1 mq v := hM.fr hF1 (by simp <;> omega) (by simp <;> omega) (by simp <;> omega)
  have hnb := pNum_b (kd := kd) (vl := vl) (lo := 2) (hi := 8) hi
  have hnv := pNum_v (kd := kd) (vl := vl) (m := m) (lo := 2) (hi := 8) (i := i)
  have hRq1 := hR1.1
  have hni : inR (pNum kd vl m 2 8 i).1 := by { by_cases e : (pNum kd vl m 2 8 i).1 = -1; rw [e]; omega; have := hnv e; omega }
  generalize pNum kd vl m 2 8 i = r at *
  refine P.istore_n (dq dtX5_readAxis 4 rfl) (by decide) rfl rfl ?_
  refine P.iload_n (dq dtX5_readAxis 5 rfl) rfl ?_
  refine P.iconst (dq dtX5_readAxis 6 rfl) ?_
  refine P.icmp_ne (t := 15) (dq dtX5_readAxis 7 rfl) rfl (by omega) (by omega) (fun c_10 => ?_) (fun c_10 => ?_)
  · refine P.aload_n (dq dtX5_readAxis 10 rfl) rfl ?_
    refine P.bipush (dq dtX5_readAxis 11 rfl) rfl ?_
    refine P.bipush (dq dtX5_readAxis 12 rfl) rfl ?_
    refine P.callV2 (M' := mX5_readNumber) (d' := d - 1) mlX5_83 mcX5_readNumber mvX5_readNumber (dq dtX5_readAxis 13 rfl) (by omega) (Nat.le_of_ble_eq_true rfl) (by repeat (first | assumption | exact up_s | rw [up_n (by first | assumption | (apply Ne.symm; assumption) | decide | omega)])) rfl ?_
    refine ct_X5_readNumber hR1 hT hnb (by omega) (by omega) (by omega) (fun σ2 hR2 hF2 => ?_)
    have hM2 : Ms σ2 mq v := hM1.fr hF2 (by simp <;> omega) (by simp <;> omega) (by simp <;> omega)
    have hMq2 := hM2.1
    have hnv2 := pNum_v (kd := kd) (vl := vl) (m := m) (lo := 10) (hi := 99) (i := r.2)
    have hni2 : inR (pNum kd vl m 10 99 r.2).1 := by { by_cases e : (pNum kd vl m 10 99 r.2).1 = -1; rw [e]; omega; have := hnv2 e; omega }
    generalize pNum kd vl m 10 99 r.2 = r2 at *
    refine P.istore_n (dq dtX5_readAxis 14 rfl) (by decide) rfl rfl ?_
    refine P.iload_n (dq dtX5_readAxis 15 rfl) rfl ?_
    refine P.iconst (dq dtX5_readAxis 16 rfl) ?_
    refine P.icmp_ne (t := 31) (dq dtX5_readAxis 17 rfl) rfl (by omega) (by omega) (fun c_26 => ?_) (fun c_26 => ?_)
    · refine P.aload_n (dq dtX5_readAxis 20 rfl) rfl ?_
      refine P.iload_n (dq dtX5_readAxis 21 rfl) rfl ?_
      refine P.iload_n (dq dtX5_readAxis 22 rfl) rfl ?_
      refine P.callV2 (M' := mX2_begin) (d' := d - 1) mlX5_86 mcX2_begin mvX2_begin (dq dtX5_readAxis 23 rfl) (by omega) (Nat.le_of_ble_eq_true rfl) (by repeat (first | assumption | exact up_s | rw [up_n (by first | assumption | (apply Ne.symm; assumption) | decide | omega)])) rfl ?_
      refine ct_X2_begin hM2 (by omega) (by omega) (by omega) (fun σ3 hM3 hF3 => ?_)
      refine P.iconst (dq dtX5_readAxis 24 rfl) ?_
      refine P.zret (dq dtX5_readAxis 25 rfl) rfl rfl (by decide) rfl ?_
      rw [if_neg (by omega), if_neg (by omega)] at h
      exact h σ3 (hR2.fr hF3 (by simp <;> omega) (by simp <;> omega) (by simp <;> omega) (by simp <;> omega)) hM3 (((hF1.trans hF2).wide (by simp)).trans (hF3.wide (by simp)))
    · refine P.iconst (dq dtX5_readAxis 18 rfl) ?_
      refine P.zret (dq dtX5_readAxis 19 rfl) rfl rfl (by decide) rfl ?_
      rw [if_neg (by omega), if_pos (by omega)] at h
      exact h σ2 hR2 hM2 ((hF1.trans hF2).wide (by simp))
  · refine P.iconst (dq dtX5_readAxis 8 rfl) ?_
    refine P.zret (dq dtX5_readAxis 9 rfl) rfl rfl (by decide) rfl ?_
    rw [if_pos (by omega)] at h
    exact h σ1 hR1 hM1 (hF1.wide (by simp))
/-- Reader.readOne -/
theorem ct_X5_readOne {x : CM} {d N : Nat} {σ : PH} {Q : PQ} {q mq : Nat} {st kd vl : Int → Int} {m i c : Int} {v : MsV} (hR : Rd σ q st kd vl m i c) (hT : TKr st kd vl m) (hi : 0 ≤ i ∧ i < m) (hM : Ms σ mq v) (hG : GMs v) (hqq : q + 3 < mq ∨ mq + 2 < q) (hd : 4 ≤ d) (h : ∀ σ' : PH, Rd σ' q st kd vl m (pOne kd vl m i v).2.1 c → Ms σ' mq (pOne kd vl m i v).2.2 → Fr σ σ' [q, mq, mq + 1, mq + 2] → Q (some (vI (pOne kd vl m i v).1)) σ') : Call x d 0 0 mX5_readOne [vR q, vR mq] N σ Q := by
  refine Call.of mcX5_readOne (Nat.le_of_ble_eq_true rfl) (fun y hy => ?_)
  subst hy
  have hRq := hR.1
  have hMq := hM.1
  have hm := hT.1
  have hv := hG.1
  unfold pOne at h
  refine P.aload_n (dq dtX5_readOne 0 rfl) rfl ?_
  refine P.iconst (dq dtX5_readOne 1 rfl) ?_
  refine P.aload_n (dq dtX5_readOne 2 rfl) rfl ?_
  refine P.get flX5_92 (dq dtX5_readOne 3 rfl) (by repeat (first | assumption | exact up_s | rw [up_n (by first | assumption | (apply Ne.symm; assumption) | decide | omega)])) (by rfl) ?_
  refine P.iconst (dq dtX5_readOne 4 rfl) ?_
  refine P.isub (dq dtX5_readOne 5 rfl) ?_
  refine P.callV2 (M' := mX5_readNumber) (d' := d - 1) mlX5_83 mcX5_readNumber mvX5_readNumber (dq dtX5_readOne 6 rfl) (by omega) (Nat.le_of_ble_eq_true rfl) (by repeat (first | assumption | exact up_s | rw [up_n (by first | assumption | (apply Ne.symm; assumption) | decide | omega)])) rfl ?_
  refine ct_X5_readNumber hR hT hi (by omega) (by omega) (by omega) (fun σ1 hR1 hF1 => ?_)
  have hM1 : Ms σ1 mq v := hM.fr hF1 (by simp <;> omega) (by simp <;> omega) (by simp <;> omega)
  have hnb := pNum_b (kd := kd) (vl := vl) (lo := 0) (hi := v.1 - 1) hi
  have hnv := pNum_v (kd := kd) (vl := vl) (m := m) (lo := 0) (hi := v.1 - 1) (i := i)
  obtain ⟨hRq1, hRa, hRb, hRc⟩ := id hR1
  have hMq1 := hM1.1
  have hni : inR (pNum kd vl m 0 (v.1 - 1) i).1 := by { by_cases e : (pNum kd vl m 0 (v.1 - 1) i).1 = -1; rw [e]; omega; have := hnv e; omega }
  obtain ⟨u1, u2, u3⟩ := hT.2 _ hnb.1 hnb.2
  generalize pNum kd vl m 0 (v.1 - 1) i = r at *
  refine P.istore_n (dq dtX5_readOne 7 rfl) (by decide) rfl rfl ?_
  refine P.iload_n (dq dtX5_readOne 8 rfl) rfl ?_
  refine P.iconst (dq dtX5_readOne 9 rfl) ?_
  refine P.icmp_ne (t := 19) (dq dtX5_readOne 10 rfl) rfl (by omega) (by omega) (fun c_14 => ?_) (fun c_14 => ?_)
  · refine P.aload_n (dq dtX5_readOne 13 rfl) rfl ?_
    refine P.get flX5_18 (dq dtX5_readOne 14 rfl) (by repeat (first | assumption | exact up_s | rw [up_n (by first | assumption | (apply Ne.symm; assumption) | decide | omega)])) (by rfl) ?_
    refine P.aload_n (dq dtX5_readOne 15 rfl) rfl ?_
    refine P.get flX5_25 (dq dtX5_readOne 16 rfl) (by repeat (first | assumption | exact up_s | rw [up_n (by first | assumption | (apply Ne.symm; assumption) | decide | omega)])) (by rfl) ?_
    refine P.iald (dq dtX5_readOne 17 rfl) (by repeat (first | assumption | exact up_s | rw [up_n (by first | assumption | (apply Ne.symm; assumption) | decide | omega)])) (by omega) (by omega) (by omega) ?_
    refine P.istore_n (dq dtX5_readOne 18 rfl) (by decide) rfl rfl ?_
    refine P.aload_n (dq dtX5_readOne 19 rfl) rfl ?_
    refine P.get flX5_15 (dq dtX5_readOne 20 rfl) (by repeat (first | assumption | exact up_s | rw [up_n (by first | assumption | (apply Ne.symm; assumption) | decide | omega)])) (by rfl) ?_
    refine P.aload_n (dq dtX5_readOne 21 rfl) rfl ?_
    refine P.get flX5_25 (dq dtX5_readOne 22 rfl) (by repeat (first | assumption | exact up_s | rw [up_n (by first | assumption | (apply Ne.symm; assumption) | decide | omega)])) (by rfl) ?_
    refine P.iald (dq dtX5_readOne 23 rfl) (by repeat (first | assumption | exact up_s | rw [up_n (by first | assumption | (apply Ne.symm; assumption) | decide | omega)])) (by omega) (by omega) (by omega) ?_
    refine P.iconst (dq dtX5_readOne 24 rfl) ?_
    refine P.icmp_ne (t := 49) (dq dtX5_readOne 25 rfl) rfl (by omega) (by omega) (fun c_39 => ?_) (fun c_39 => ?_)
    · refine P.iconst (dq dtX5_readOne 29 rfl) ?_
      refine P.zret (dq dtX5_readOne 30 rfl) rfl rfl (by decide) rfl ?_
      first | (rw [if_neg (show ¬ r.1 = -1 by omega), if_neg (fun h9 => absurd h9.1 (by omega))] at h; exact h σ1 hR1 hM1 (hF1.wide (by simp))) | (rw [if_neg (show ¬ r.1 = -1 by omega), if_neg (fun h9 => n_43 h9.2)] at h; exact h σ1 hR1 hM1 (hF1.wide (by simp)))
    · refine P.iload_n (dq dtX5_readOne 26 rfl) rfl ?_
      refine P.callSN1 (M' := mX6_isWay) (d' := d - 1) nlX5_99 mcX6_isWay msX6_isWay (dq dtX5_readOne 27 rfl) (by omega) (Nat.le_of_ble_eq_true rfl) ?_
      refine ct_X6_isWay (by omega) (fun n_43 => ?_) (fun n_43 => ?_)
      · refine P.if_ne (t := 51) (dq dtX5_readOne 28 rfl) rfl (by omega) (fun _ => ?_) (fun h9 => absurd h9 (by decide))
        refine P.aload_n (dq dtX5_readOne 31 rfl) rfl ?_
        refine P.callV0 (M' := mX5_goOn) (d' := d - 1) mlX5_43 mcX5_goOn mvX5_goOn (dq dtX5_readOne 32 rfl) (by omega) (Nat.le_of_ble_eq_true rfl) (by repeat (first | assumption | exact up_s | rw [up_n (by first | assumption | (apply Ne.symm; assumption) | decide | omega)])) rfl ?_
        refine ct_X5_goOn hR1 hT hnb (fun σ2 hR2 hF2 => ?_)
        have hM2 : Ms σ2 mq v := hM1.fr hF2 (by simp <;> omega) (by simp <;> omega) (by simp <;> omega)
        have hRq2 := hR2.1
        refine P.aload_n (dq dtX5_readOne 33 rfl) rfl ?_
        refine P.aload_n (dq dtX5_readOne 34 rfl) rfl ?_
        refine P.iload_n (dq dtX5_readOne 35 rfl) rfl ?_
        refine P.iload_n (dq dtX5_readOne 36 rfl) rfl ?_
        refine P.callV3 (M' := mX5_readErr) (d' := d - 1) mlX5_95 mcX5_readErr mvX5_readErr (dq dtX5_readOne 37 rfl) (by omega) (Nat.le_of_ble_eq_true rfl) (by repeat (first | assumption | exact up_s | rw [up_n (by first | assumption | (apply Ne.symm; assumption) | decide | omega)])) rfl ?_
        refine ct_X5_readErr hR2 hT (nx_b hnb) hM2 hG hqq (by omega) (by have := hnv (by omega); omega) n_43 (fun σ3 hR3 hM3 hF3 => ?_)
        rw [if_neg (by omega), if_pos ⟨by omega, n_43⟩] at h
        have e01 : (pErr kd vl m r.1 (vl r.2) (nx m r.2) v).1 = 0 ∨ (pErr kd vl m r.1 (vl r.2) (nx m r.2) v).1 = 1 := by { unfold pErr; split <;> simp }
        refine P.zret (dq dtX5_readOne 38 rfl) rfl rfl e01 rfl ?_
        exact h σ3 hR3 hM3 (((hF1.trans hF2).wide (by simp)).trans hF3)
      · refine P.if_ne (t := 51) (dq dtX5_readOne 28 rfl) rfl (by omega) (fun h9 => absurd h9 (by decide)) (fun _ => ?_)
        refine P.iconst (dq dtX5_readOne 29 rfl) ?_
        refine P.zret (dq dtX5_readOne 30 rfl) rfl rfl (by decide) rfl ?_
        first | (rw [if_neg (show ¬ r.1 = -1 by omega), if_neg (fun h9 => absurd h9.1 (by omega))] at h; exact h σ1 hR1 hM1 (hF1.wide (by simp))) | (rw [if_neg (show ¬ r.1 = -1 by omega), if_neg (fun h9 => n_43 h9.2)] at h; exact h σ1 hR1 hM1 (hF1.wide (by simp)))
  · refine P.iconst (dq dtX5_readOne 11 rfl) ?_
    refine P.zret (dq dtX5_readOne 12 rfl) rfl rfl (by decide) rfl ?_
    rw [if_pos (by omega)] at h
    exact h σ1 hR1 hM1 (hF1.wide (by simp))
end
section
theorem pErr_01 {kd vl : Int → Int} {m k w i : Int} {v : MsV} : (pErr kd vl m k w i v).1 = 0 ∨ (pErr kd vl m k w i v).1 = 1 := by unfold pErr; split <;> simp
theorem pRow_01 {kd vl : Int → Int} {m w : Int} : ∀ (t : Nat) (k i : Int) (v : MsV), (pRow kd vl m w t k i v).1 = 0 ∨ (pRow kd vl m w t k i v).1 = 1 := by
  intro t
  induction t with
  | zero => intro k i v; exact Or.inr rfl
  | succ t ih =>
    intro k i v
    unfold pRow
    split
    · exact pErr_01
    · exact ih _ _ _
theorem pAxis_01 {bg : (Int → Int) → Int → Int} {kd vl : Int → Int} {m i : Int} {v : MsV} : (pAxis bg kd vl m i v).1 = 0 ∨ (pAxis bg kd vl m i v).1 = 1 := by
  unfold pAxis; split
  · exact Or.inl rfl
  · split
    · exact Or.inl rfl
    · exact Or.inr rfl
theorem pOne_01 {kd vl : Int → Int} {m i : Int} {v : MsV} : (pOne kd vl m i v).1 = 0 ∨ (pOne kd vl m i v).1 = 1 := by
  unfold pOne; split
  · exact Or.inl rfl
  · split
    · exact pErr_01
    · exact Or.inl rfl
theorem pCl_01 {bg : (Int → Int) → Int → Int} {kd vl : Int → Int} {m i : Int} {v : MsV} : (pCl bg kd vl m i v).1 = 0 ∨ (pCl bg kd vl m i v).1 = 1 := by
  unfold pCl; split
  · exact pRow_01 _ _ _ _
  · split
    · exact pAxis_01
    · split
      · exact pOne_01
      · exact Or.inl rfl
/-- Reader.readClause -/
theorem ct_X5_readClause {x : CM} {d N : Nat} {σ : PH} {Q : PQ} {q mq : Nat} {st kd vl : Int → Int} {m i c : Int} {v : MsV} (hR : Rd σ q st kd vl m i c) (hT : TKr st kd vl m) (hi : 0 ≤ i ∧ i < m) (hM : Ms σ mq v) (hG : GMs v) (hqq : q + 3 < mq ∨ mq + 2 < q) (hd : 5 ≤ d) (h : ∀ σ' : PH, Rd σ' q st kd vl m (pCl (fun f => f) kd vl m i v).2.1 c → Ms σ' mq (pCl (fun f => f) kd vl m i v).2.2 → Fr σ σ' [q, mq, mq + 1, mq + 2] → Q (some (vI (pCl (fun f => f) kd vl m i v).1)) σ') : Call x d 0 0 mX5_readClause [vR q, vR mq] N σ Q := by
  refine Call.of mcX5_readClause (Nat.le_of_ble_eq_true rfl) (fun y hy => ?_)
  subst hy
  obtain ⟨hRq, hRa, hRb, hRc⟩ := id hR
  have hm := hT.1
  have hv := hG.1
  obtain ⟨u1, u2, u3⟩ := hT.2 i hi.1 hi.2
  unfold pCl at h
  refine P.aload_n (dq dtX5_readClause 0 rfl) rfl ?_
  refine P.get flX5_15 (dq dtX5_readClause 1 rfl) (by repeat (first | assumption | exact up_s | rw [up_n (by first | assumption | (apply Ne.symm; assumption) | decide | omega)])) (by rfl) ?_
  refine P.aload_n (dq dtX5_readClause 2 rfl) rfl ?_
  refine P.get flX5_25 (dq dtX5_readClause 3 rfl) (by repeat (first | assumption | exact up_s | rw [up_n (by first | assumption | (apply Ne.symm; assumption) | decide | omega)])) (by rfl) ?_
  refine P.iald (dq dtX5_readClause 4 rfl) (by repeat (first | assumption | exact up_s | rw [up_n (by first | assumption | (apply Ne.symm; assumption) | decide | omega)])) (by omega) (by omega) (by omega) ?_
  refine P.iconst (dq dtX5_readClause 5 rfl) ?_
  refine P.icmp_eq (t := 15) (dq dtX5_readClause 6 rfl) rfl (by omega) (by omega) (fun c_10 => ?_) (fun c_10 => ?_)
  · refine P.aload_n (dq dtX5_readClause 9 rfl) rfl ?_
    refine P.get flX5_18 (dq dtX5_readClause 10 rfl) (by repeat (first | assumption | exact up_s | rw [up_n (by first | assumption | (apply Ne.symm; assumption) | decide | omega)])) (by rfl) ?_
    refine P.aload_n (dq dtX5_readClause 11 rfl) rfl ?_
    refine P.get flX5_25 (dq dtX5_readClause 12 rfl) (by repeat (first | assumption | exact up_s | rw [up_n (by first | assumption | (apply Ne.symm; assumption) | decide | omega)])) (by rfl) ?_
    refine P.iald (dq dtX5_readClause 13 rfl) (by repeat (first | assumption | exact up_s | rw [up_n (by first | assumption | (apply Ne.symm; assumption) | decide | omega)])) (by omega) (by omega) (by omega) ?_
    refine P.istore_n (dq dtX5_readClause 14 rfl) (by decide) rfl rfl ?_
    refine P.iload_n (dq dtX5_readClause 15 rfl) rfl ?_
    rcases (show vl i = 0 ∨ vl i = 1 ∨ vl i = 2 ∨ vl i = 3 ∨ (vl i < 0 ∨ 3 < vl i) by omega) with e_26 | e_26 | e_26 | e_26 | e_26
    · refine P.tswIn (off := 30) (t := 56) (dq dtX5_readClause 16 rfl) (by omega) (by omega) (by omega) (by rw [e_26]; rfl) rfl ?_
      refine P.aload_n (dq dtX5_readClause 17 rfl) rfl ?_
      refine P.callV0 (M' := mX5_goOn) (d' := d - 1) mlX5_43 mcX5_goOn mvX5_goOn (dq dtX5_readClause 18 rfl) (by omega) (Nat.le_of_ble_eq_true rfl) (by repeat (first | assumption | exact up_s | rw [up_n (by first | assumption | (apply Ne.symm; assumption) | decide | omega)])) rfl ?_
      refine ct_X5_goOn hR hT hi (fun σ1 hR1 hF1 => ?_)
      have hM1 : Ms σ1 mq v := hM.fr hF1 (by simp <;> omega) (by simp <;> omega) (by simp <;> omega)
      have hRq1 := hR1.1
      refine P.aload_n (dq dtX5_readClause 19 rfl) rfl ?_
      refine P.aload_n (dq dtX5_readClause 20 rfl) rfl ?_
      refine P.iload_n (dq dtX5_readClause 21 rfl) rfl ?_
      refine P.callV2 (M' := mX5_readRow) (d' := d - 1) mlX5_73 mcX5_readRow mvX5_readRow (dq dtX5_readClause 22 rfl) (by omega) (Nat.le_of_ble_eq_true rfl) (by repeat (first | assumption | exact up_s | rw [up_n (by first | assumption | (apply Ne.symm; assumption) | decide | omega)])) rfl ?_
      refine ct_X5_readRow hR1 hT (nx_b hi) hM1 hG hqq (by omega) (by omega) (fun σ2 hR2 hM2 hF2 => ?_)
      rw [if_pos (show kd i = 1 ∧ (vl i = 0 ∨ vl i = 1) by omega)] at h
      refine P.zret (dq dtX5_readClause 23 rfl) rfl rfl (pRow_01 _ _ _ _) rfl ?_
      exact h σ2 hR2 hM2 ((hF1.wide (by simp)).trans hF2)
    · refine P.tswIn (off := 30) (t := 56) (dq dtX5_readClause 16 rfl) (by omega) (by omega) (by omega) (by rw [e_26]; rfl) rfl ?_
      refine P.aload_n (dq dtX5_readClause 17 rfl) rfl ?_
      refine P.callV0 (M' := mX5_goOn) (d' := d - 1) mlX5_43 mcX5_goOn mvX5_goOn (dq dtX5_readClause 18 rfl) (by omega) (Nat.le_of_ble_eq_true rfl) (by repeat (first | assumption | exact up_s | rw [up_n (by first | assumption | (apply Ne.symm; assumption) | decide | omega)])) rfl ?_
      refine ct_X5_goOn hR hT hi (fun σ1 hR1 hF1 => ?_)
      have hM1 : Ms σ1 mq v := hM.fr hF1 (by simp <;> omega) (by simp <;> omega) (by simp <;> omega)
      have hRq1 := hR1.1
      refine P.aload_n (dq dtX5_readClause 19 rfl) rfl ?_
      refine P.aload_n (dq dtX5_readClause 20 rfl) rfl ?_
      refine P.iload_n (dq dtX5_readClause 21 rfl) rfl ?_
      refine P.callV2 (M' := mX5_readRow) (d' := d - 1) mlX5_73 mcX5_readRow mvX5_readRow (dq dtX5_readClause 22 rfl) (by omega) (Nat.le_of_ble_eq_true rfl) (by repeat (first | assumption | exact up_s | rw [up_n (by first | assumption | (apply Ne.symm; assumption) | decide | omega)])) rfl ?_
      refine ct_X5_readRow hR1 hT (nx_b hi) hM1 hG hqq (by omega) (by omega) (fun σ2 hR2 hM2 hF2 => ?_)
      rw [if_pos (show kd i = 1 ∧ (vl i = 0 ∨ vl i = 1) by omega)] at h
      refine P.zret (dq dtX5_readClause 23 rfl) rfl rfl (pRow_01 _ _ _ _) rfl ?_
      exact h σ2 hR2 hM2 ((hF1.wide (by simp)).trans hF2)
    · refine P.tswIn (off := 41) (t := 67) (dq dtX5_readClause 16 rfl) (by omega) (by omega) (by omega) (by rw [e_26]; rfl) rfl ?_
      refine P.aload_n (dq dtX5_readClause 24 rfl) rfl ?_
      refine P.callV0 (M' := mX5_goOn) (d' := d - 1) mlX5_43 mcX5_goOn mvX5_goOn (dq dtX5_readClause 25 rfl) (by omega) (Nat.le_of_ble_eq_true rfl) (by repeat (first | assumption | exact up_s | rw [up_n (by first | assumption | (apply Ne.symm; assumption) | decide | omega)])) rfl ?_
      refine ct_X5_goOn hR hT hi (fun σ1 hR1 hF1 => ?_)
      have hM1 : Ms σ1 mq v := hM.fr hF1 (by simp <;> omega) (by simp <;> omega) (by simp <;> omega)
      have hRq1 := hR1.1
      refine P.aload_n (dq dtX5_readClause 26 rfl) rfl ?_
      refine P.aload_n (dq dtX5_readClause 27 rfl) rfl ?_
      refine P.callV1 (M' := mX5_readAxis) (d' := d - 1) mlX5_77 mcX5_readAxis mvX5_readAxis (dq dtX5_readClause 28 rfl) (by omega) (Nat.le_of_ble_eq_true rfl) (by repeat (first | assumption | exact up_s | rw [up_n (by first | assumption | (apply Ne.symm; assumption) | decide | omega)])) rfl ?_
      refine ct_X5_readAxis hR1 hT (nx_b hi) hM1 hG hqq (by omega) (fun σ2 hR2 hM2 hF2 => ?_)
      rw [if_neg (show ¬ (kd i = 1 ∧ (vl i = 0 ∨ vl i = 1)) by omega), if_pos (show kd i = 1 ∧ vl i = 2 by omega)] at h
      refine P.zret (dq dtX5_readClause 29 rfl) rfl rfl pAxis_01 rfl ?_
      exact h σ2 hR2 hM2 ((hF1.wide (by simp)).trans hF2)
    · refine P.tswIn (off := 51) (t := 77) (dq dtX5_readClause 16 rfl) (by omega) (by omega) (by omega) (by rw [e_26]; rfl) rfl ?_
      refine P.aload_n (dq dtX5_readClause 30 rfl) rfl ?_
      refine P.callV0 (M' := mX5_goOn) (d' := d - 1) mlX5_43 mcX5_goOn mvX5_goOn (dq dtX5_readClause 31 rfl) (by omega) (Nat.le_of_ble_eq_true rfl) (by repeat (first | assumption | exact up_s | rw [up_n (by first | assumption | (apply Ne.symm; assumption) | decide | omega)])) rfl ?_
      refine ct_X5_goOn hR hT hi (fun σ1 hR1 hF1 => ?_)
      have hM1 : Ms σ1 mq v := hM.fr hF1 (by simp <;> omega) (by simp <;> omega) (by simp <;> omega)
      have hRq1 := hR1.1
      refine P.aload_n (dq dtX5_readClause 32 rfl) rfl ?_
      refine P.aload_n (dq dtX5_readClause 33 rfl) rfl ?_
      refine P.callV1 (M' := mX5_readOne) (d' := d - 1) mlX5_80 mcX5_readOne mvX5_readOne (dq dtX5_readClause 34 rfl) (by omega) (Nat.le_of_ble_eq_true rfl) (by repeat (first | assumption | exact up_s | rw [up_n (by first | assumption | (apply Ne.symm; assumption) | decide | omega)])) rfl ?_
      refine ct_X5_readOne hR1 hT (nx_b hi) hM1 hG hqq (by omega) (fun σ2 hR2 hM2 hF2 => ?_)
      rw [if_neg (show ¬ (kd i = 1 ∧ (vl i = 0 ∨ vl i = 1)) by omega), if_neg (show ¬ (kd i = 1 ∧ vl i = 2) by omega), if_pos (show kd i = 1 ∧ vl i = 3 by omega)] at h
      refine P.zret (dq dtX5_readClause 35 rfl) rfl rfl pOne_01 rfl ?_
      exact h σ2 hR2 hM2 ((hF1.wide (by simp)).trans hF2)
    · refine P.tswOut (t := 87) (dq dtX5_readClause 16 rfl) (by omega) e_26 rfl ?_
      refine P.iconst (dq dtX5_readClause 36 rfl) ?_
      refine P.zret (dq dtX5_readClause 37 rfl) rfl rfl (by decide) rfl ?_
      rw [if_neg (by omega), if_neg (by omega), if_neg (by omega)] at h
      exact h σ hR hM Fr.rf
  · refine P.iconst (dq dtX5_readClause 7 rfl) ?_
    refine P.zret (dq dtX5_readClause 8 rfl) rfl rfl (by decide) rfl ?_
    rw [if_neg (by omega), if_neg (by omega), if_neg (by omega)] at h
    exact h σ hR hM Fr.rf
theorem lp_readInto {x : CX} {d N : Nat} {Q : PQ} {q mq tq : Nat} {st kd vl : Int → Int} {m : Int} (hT : TKr st kd vl m) (hqq : q + 3 < mq ∨ mq + 2 < q) (hd : 6 ≤ d) : ∀ (t : Nat) (c i : Int) (v : MsV) (σ : PH), GMs v → 1 ≤ c → c + t = 25 → 0 < t → (0 ≤ i ∧ i < m) → Rd σ q st kd vl m i c → Ms σ mq v → (∀ (σ' : PH) (j : Int), Rd σ' q st kd vl m j (pTx (fun f => f) kd vl m t c i v).2.2.2 → Ms σ' mq (pTx (fun f => f) kd vl m t c i v).2.2.1 → Fr σ σ' [q, mq, mq + 1, mq + 2] → Q (some (vI (if (pTx (fun f => f) kd vl m t c i v).1 = 1 then -1 else st (pTx (fun f => f) kd vl m t c i v).2.1))) σ') → P x d mX5_readInto Q (0, 0) 15 [some (vR q), some (vR mq), some (vR tq)] [] N σ := by
  intro t
  induction t with
  | zero => intro c i v σ hG hc ht h0; omega
  | succ t ih =>
    intro c i v σ hG hc ht h0 hi hR hM h
    have hm := hT.1
    have hRq := hR.1
    have g1 := pCl_G (bg := (fun f => f)) (kd := kd) (vl := vl) (m := m) (i := i) hG
    have gb := pCl_b (bg := (fun f => f)) (kd := kd) (vl := vl) (m := m) (i := i) (v := v) hi
    have g01 := pCl_01 (bg := (fun f => f)) (kd := kd) (vl := vl) (m := m) (i := i) (v := v)
    have hx : pTx (fun f => f) kd vl m (t + 1) c i v = if (pCl (fun f => f) kd vl m i v).1 = 0 then (0, (pCl (fun f => f) kd vl m i v).2.1, (pCl (fun f => f) kd vl m i v).2.2, c) else if kd (pCl (fun f => f) kd vl m i v).2.1 = 0 then (1, (pCl (fun f => f) kd vl m i v).2.1, (pCl (fun f => f) kd vl m i v).2.2, c) else if ¬ (kd (pCl (fun f => f) kd vl m i v).2.1 = 3 ∧ vl (pCl (fun f => f) kd vl m i v).2.1 = 59) ∨ c = 24 then (0, (pCl (fun f => f) kd vl m i v).2.1, (pCl (fun f => f) kd vl m i v).2.2, c) else pTx (fun f => f) kd vl m t (c + 1) (nx m (pCl (fun f => f) kd vl m i v).2.1) (pCl (fun f => f) kd vl m i v).2.2 := rfl
    rw [hx] at h
    refine P.aload_n (dq dtX5_readInto 9 rfl) rfl ?_
    refine P.get flX5_28 (dq dtX5_readInto 10 rfl) (by repeat (first | assumption | exact up_s | rw [up_n (by first | assumption | (apply Ne.symm; assumption) | decide | omega)])) (by rfl) ?_
    refine P.bipush (dq dtX5_readInto 11 rfl) rfl ?_
    refine P.icmp_gt (t := 101) (dq dtX5_readInto 12 rfl) rfl (by omega) (by omega) (fun c_21 => ?_) (fun c_21 => ?_)
    · exfalso; omega
    · refine P.aload_n (dq dtX5_readInto 13 rfl) rfl ?_
      refine P.aload_n (dq dtX5_readInto 14 rfl) rfl ?_
      refine P.callV1 (M' := mX5_readClause) (d' := d - 1) mlX5_35 mcX5_readClause mvX5_readClause (dq dtX5_readInto 15 rfl) (by omega) (Nat.le_of_ble_eq_true rfl) (by repeat (first | assumption | exact up_s | rw [up_n (by first | assumption | (apply Ne.symm; assumption) | decide | omega)])) rfl ?_
      refine ct_X5_readClause hR hT hi hM hG hqq (by omega) (fun σ1 hR1 hM1 hF1 => ?_)
      obtain ⟨hRq1, hRa1, hRb1, hRc1⟩ := id hR1
      obtain ⟨u1, u2, u3⟩ := hT.2 _ gb.1 gb.2
      generalize pCl (fun f => f) kd vl m i v = r at *
      refine P.if_ne (t := 42) (dq dtX5_readInto 16 rfl) rfl (by omega) (fun c_29 => ?_) (fun c_29 => ?_)
      · refine P.aload_n (dq dtX5_readInto 23 rfl) rfl ?_
        refine P.get flX5_15 (dq dtX5_readInto 24 rfl) (by repeat (first | assumption | exact up_s | rw [up_n (by first | assumption | (apply Ne.symm; assumption) | decide | omega)])) (by rfl) ?_
        refine P.aload_n (dq dtX5_readInto 25 rfl) rfl ?_
        refine P.get flX5_25 (dq dtX5_readInto 26 rfl) (by repeat (first | assumption | exact up_s | rw [up_n (by first | assumption | (apply Ne.symm; assumption) | decide | omega)])) (by rfl) ?_
        refine P.iald (dq dtX5_readInto 27 rfl) (by repeat (first | assumption | exact up_s | rw [up_n (by first | assumption | (apply Ne.symm; assumption) | decide | omega)])) (by omega) (by omega) (by omega) ?_
        refine P.if_ne (t := 56) (dq dtX5_readInto 28 rfl) rfl (by omega) (fun c_51 => ?_) (fun c_51 => ?_)
        · refine P.aload_n (dq dtX5_readInto 31 rfl) rfl ?_
          refine P.bipush (dq dtX5_readInto 32 rfl) rfl ?_
          refine P.callV1 (M' := mX5_isSign) (d' := d - 1) mlX5_39 mcX5_isSign mvX5_isSign (dq dtX5_readInto 33 rfl) (by omega) (Nat.le_of_ble_eq_true rfl) (by repeat (first | assumption | exact up_s | rw [up_n (by first | assumption | (apply Ne.symm; assumption) | decide | omega)])) rfl ?_
          refine ct_X5_isSign hR1 hT gb (by omega) (fun n_59 => ?_) (fun n_59 => ?_)
          · refine P.if_eq (t := 74) (dq dtX5_readInto 34 rfl) rfl (by omega) (fun h9 => absurd h9 (by decide)) (fun _ => ?_)
            refine P.aload_n (dq dtX5_readInto 35 rfl) rfl ?_
            refine P.get flX5_28 (dq dtX5_readInto 36 rfl) (by repeat (first | assumption | exact up_s | rw [up_n (by first | assumption | (apply Ne.symm; assumption) | decide | omega)])) (by rfl) ?_
            refine P.bipush (dq dtX5_readInto 37 rfl) rfl ?_
            refine P.icmp_ne (t := 84) (dq dtX5_readInto 38 rfl) rfl (by omega) (by omega) (fun c_71 => ?_) (fun c_71 => ?_)
            · refine P.aload_n (dq dtX5_readInto 45 rfl) rfl ?_
              refine P.callV0 (M' := mX5_goOn) (d' := d - 1) mlX5_43 mcX5_goOn mvX5_goOn (dq dtX5_readInto 46 rfl) (by omega) (Nat.le_of_ble_eq_true rfl) (by repeat (first | assumption | exact up_s | rw [up_n (by first | assumption | (apply Ne.symm; assumption) | decide | omega)])) rfl ?_
              refine ct_X5_goOn hR1 hT gb (fun σ2 hR2 hF2 => ?_)
              have hRq2 := hR2.1
              have hM2 : Ms σ2 mq r.2.2 := hM1.fr hF2 (by simp <;> omega) (by simp <;> omega) (by simp <;> omega)
              refine P.aload_n (dq dtX5_readInto 47 rfl) rfl ?_
              refine P.dup (dq dtX5_readInto 48 rfl) rfl ?_
              refine P.get flX5_28 (dq dtX5_readInto 49 rfl) (by repeat (first | assumption | exact up_s | rw [up_n (by first | assumption | (apply Ne.symm; assumption) | decide | omega)])) (by rfl) ?_
              refine P.iconst (dq dtX5_readInto 50 rfl) ?_
              refine P.iadd (dq dtX5_readInto 51 rfl) ?_
              refine P.put flX5_28 rfl (dq dtX5_readInto 52 rfl) (by repeat (first | assumption | exact up_s | rw [up_n (by first | assumption | (apply Ne.symm; assumption) | decide | omega)])) (by exact Nat.le_of_ble_eq_true rfl) rfl rfl rfl rfl rfl ?_
              refine P.goto (t := 15) (dq dtX5_readInto 53 rfl) rfl ?_
              rw [if_neg (by omega), if_neg (by omega), if_neg (by omega)] at h
              refine ih (c + 1) (nx m r.2.1) r.2.2 _ g1 (by omega) (by omega) (by omega) (nx_b gb) hR2.up (hM2.fr (S := [q]) (by repeat (first | assumption | exact Fr.rf | refine Fr.up ?_ (by simp))) (by simp <;> omega) (by simp <;> omega) (by simp <;> omega)) (fun σ' j q1 q2 q3 => h σ' j q1 q2 ((hF1.trans (hF2.wide (by simp))).trans ((Fr.wide (S := [q]) (by repeat (first | assumption | exact Fr.rf | refine Fr.up ?_ (by simp))) (by simp)).trans q3)))
            · refine P.aload_n (dq dtX5_readInto 39 rfl) rfl ?_
              refine P.get flX5_9 (dq dtX5_readInto 40 rfl) (by repeat (first | assumption | exact up_s | rw [up_n (by first | assumption | (apply Ne.symm; assumption) | decide | omega)])) (by rfl) ?_
              refine P.aload_n (dq dtX5_readInto 41 rfl) rfl ?_
              refine P.get flX5_25 (dq dtX5_readInto 42 rfl) (by repeat (first | assumption | exact up_s | rw [up_n (by first | assumption | (apply Ne.symm; assumption) | decide | omega)])) (by rfl) ?_
              refine P.iald (dq dtX5_readInto 43 rfl) (by repeat (first | assumption | exact up_s | rw [up_n (by first | assumption | (apply Ne.symm; assumption) | decide | omega)])) (by omega) (by omega) (by omega) ?_
              refine P.iret (dq dtX5_readInto 44 rfl) rfl rfl rfl ?_
              rw [if_neg (by omega), if_neg (by omega), if_pos (by omega)] at h
              have h9 := h σ1 r.2.1 hR1 hM1 hF1
              exact h9
          · refine P.if_eq (t := 74) (dq dtX5_readInto 34 rfl) rfl (by omega) (fun _ => ?_) (fun h9 => absurd h9 (by decide))
            refine P.aload_n (dq dtX5_readInto 39 rfl) rfl ?_
            refine P.get flX5_9 (dq dtX5_readInto 40 rfl) (by repeat (first | assumption | exact up_s | rw [up_n (by first | assumption | (apply Ne.symm; assumption) | decide | omega)])) (by rfl) ?_
            refine P.aload_n (dq dtX5_readInto 41 rfl) rfl ?_
            refine P.get flX5_25 (dq dtX5_readInto 42 rfl) (by repeat (first | assumption | exact up_s | rw [up_n (by first | assumption | (apply Ne.symm; assumption) | decide | omega)])) (by rfl) ?_
            refine P.iald (dq dtX5_readInto 43 rfl) (by repeat (first | assumption | exact up_s | rw [up_n (by first | assumption | (apply Ne.symm; assumption) | decide | omega)])) (by omega) (by omega) (by omega) ?_
            refine P.iret (dq dtX5_readInto 44 rfl) rfl rfl rfl ?_
            rw [if_neg (by omega), if_neg (by omega), if_pos (by omega)] at h
            have h9 := h σ1 r.2.1 hR1 hM1 hF1
            exact h9
        · refine P.iconst (dq dtX5_readInto 29 rfl) ?_
          refine P.iret (dq dtX5_readInto 30 rfl) rfl rfl rfl ?_
          rw [if_neg (by omega), if_pos (by omega)] at h
          have h9 := h σ1 r.2.1 hR1 hM1 hF1
          exact h9
      · refine P.aload_n (dq dtX5_readInto 17 rfl) rfl ?_
        refine P.get flX5_9 (dq dtX5_readInto 18 rfl) (by repeat (first | assumption | exact up_s | rw [up_n (by first | assumption | (apply Ne.symm; assumption) | decide | omega)])) (by rfl) ?_
        refine P.aload_n (dq dtX5_readInto 19 rfl) rfl ?_
        refine P.get flX5_25 (dq dtX5_readInto 20 rfl) (by repeat (first | assumption | exact up_s | rw [up_n (by first | assumption | (apply Ne.symm; assumption) | decide | omega)])) (by rfl) ?_
        refine P.iald (dq dtX5_readInto 21 rfl) (by repeat (first | assumption | exact up_s | rw [up_n (by first | assumption | (apply Ne.symm; assumption) | decide | omega)])) (by omega) (by omega) (by omega) ?_
        refine P.iret (dq dtX5_readInto 22 rfl) rfl rfl rfl ?_
        rw [if_pos (by omega)] at h
        have h9 := h σ1 r.2.1 hR1 hM1 hF1
        exact h9
end
section
/-! tokens of a text -/
def bS (c : Int) : Bool := decide (97 ≤ c ∧ c ≤ 122)
def bD (c : Int) : Bool := decide (48 ≤ c ∧ c ≤ 57)
def bB (c : Int) : Bool := decide (c = 32)
def rnE (pr : Int → Bool) (f : Int → Int) (n : Int) : Nat → Int → Int
  | 0, k => k
  | t + 1, k => if k < n ∧ pr (f k) = true then rnE pr f n t (k + 1) else k
/-- where a run ends -/
def rn (pr : Int → Bool) (f : Int → Int) (n k : Int) : Int := rnE pr f n (n - k).toNat k
theorem rn_y {pr : Int → Bool} {f : Int → Int} {n k : Int} (h : k < n) (hp : pr (f k) = true) : rn pr f n k = rn pr f n (k + 1) := by
  unfold rn
  obtain ⟨t, ht⟩ : ∃ t : Nat, (n - k).toNat = t + 1 := ⟨(n - k).toNat - 1, by omega⟩
  rw [ht, show (n - (k + 1)).toNat = t by omega]
  show (if k < n ∧ pr (f k) = true then rnE pr f n t (k + 1) else k) = _
  rw [if_pos ⟨h, hp⟩]
theorem rn_n {pr : Int → Bool} {f : Int → Int} {n k : Int} (h : ¬ (k < n ∧ pr (f k) = true)) : rn pr f n k = k := by
  unfold rn
  cases ht : (n - k).toNat with
  | zero => rfl
  | succ t =>
    show (if k < n ∧ pr (f k) = true then rnE pr f n t (k + 1) else k) = k
    rw [if_neg h]
theorem rn_b {pr : Int → Bool} {f : Int → Int} {n : Int} : ∀ (t : Nat) (k : Int), n - k ≤ t → k ≤ rn pr f n k ∧ (k ≤ n → rn pr f n k ≤ n) := by
  intro t
  induction t with
  | zero => intro k h; rw [rn_n (by omega)]; omega
  | succ t ih =>
    intro k h
    by_cases hc : k < n ∧ pr (f k) = true
    · rw [rn_y hc.1 hc.2]
      have := ih (k + 1) (by omega)
      omega
    · rw [rn_n hc]; omega
theorem rn_bd {pr : Int → Bool} {f : Int → Int} {n k : Int} : k ≤ rn pr f n k ∧ (k ≤ n → rn pr f n k ≤ n) := rn_b (n - k).toNat k (by omega)
theorem rn_end {pr : Int → Bool} {f : Int → Int} {n : Int} : ∀ (t : Nat) (k : Int), n - k ≤ t → ¬ (rn pr f n k < n ∧ pr (f (rn pr f n k)) = true) := by
  intro t
  induction t with
  | zero => intro k h; rw [rn_n (by omega)]; omega
  | succ t ih =>
    intro k h
    by_cases hc : k < n ∧ pr (f k) = true
    · rw [rn_y hc.1 hc.2]
      exact ih (k + 1) (by omega)
    · rw [rn_n hc]; exact hc
theorem rn_all {pr : Int → Bool} {f : Int → Int} {n : Int} : ∀ (t : Nat) (k : Int), n - k ≤ t → ∀ i : Int, k ≤ i → i < rn pr f n k → pr (f i) = true := by
  intro t
  induction t with
  | zero => intro k h i h1 h2; rw [rn_n (by omega)] at h2; omega
  | succ t ih =>
    intro k h i h1 h2
    by_cases hc : k < n ∧ pr (f k) = true
    · by_cases e : i = k
      · rw [e]; exact hc.2
      · rw [rn_y hc.1 hc.2] at h2
        exact ih (k + 1) (by omega) i (by omega) h2
    · rw [rn_n hc] at h2; omega
def tkE (f : Int → Int) (n k : Int) : Int := if bS (f k) = true then rn bS f n (k + 1) else if bD (f k) = true then rn bD f n (k + 1) else k + 1
def skp (f : Int → Int) (n k : Int) : Int := rn bB f n k
def nmF (f : Int → Int) (k e : Int) : Int := if k < e ∧ e - k ≤ 2 then dgF f (e - k).toNat k 0 else -1
def kdF (f : Int → Int) (k : Int) : Int := if bS (f k) = true then 1 else if bD (f k) = true then 2 else 3
def vlF (f : Int → Int) (n k : Int) : Int := if bS (f k) = true then wdF f k (tkE f n k) else if bD (f k) = true then nmF f k (tkE f n k) else f k
/-- a token that is no end -/
def TK1 (f : Int → Int) (n : Int) (st kd vl : Int → Int) (i : Int) : Prop := 0 ≤ st i ∧ st i < n ∧ f (st i) ≠ 32 ∧ kd i = kdF f (st i) ∧ vl i = vlF f n (st i)
def TK (f : Int → Int) (n : Int) (st kd vl : Int → Int) (m : Int) : Prop := (1 ≤ m ∧ m ≤ n + 1) ∧ st 0 = skp f n 0 ∧ (∀ i : Int, 0 ≤ i → i < m - 1 → TK1 f n st kd vl i ∧ st (i + 1) = skp f n (tkE f n (st i))) ∧ st (m - 1) = n ∧ kd (m - 1) = 0 ∧ vl (m - 1) = 0
theorem tkE_b {f : Int → Int} {n k : Int} (h : k < n) : k < tkE f n k ∧ tkE f n k ≤ n := by
  unfold tkE
  have h1 := rn_bd (pr := bS) (f := f) (n := n) (k := k + 1)
  have h2 := rn_bd (pr := bD) (f := f) (n := n) (k := k + 1)
  split
  · omega
  · split <;> omega
theorem wdF_b (f : Int → Int) (u w : Int) : -100000 ≤ wdF f u w ∧ wdF f u w ≤ 3 := by
  unfold wdF
  repeat' split
  all_goals omega
theorem dgF_b {f : Int → Int} {k v : Int} (hv : 0 ≤ v ∧ v ≤ 9) : ∀ t : Nat, t ≤ 1 → -1 ≤ dgF f t k v ∧ dgF f t k v ≤ 99 := by
  intro t ht
  match t, ht with
  | 0, _ => show -1 ≤ v ∧ v ≤ 99; omega
  | 1, _ =>
    show -1 ≤ (if 48 ≤ f k ∧ f k ≤ 57 then 10 * v + f k - 48 else -1) ∧ (if 48 ≤ f k ∧ f k ≤ 57 then 10 * v + f k - 48 else -1) ≤ 99
    split <;> omega
theorem nmF_b (f : Int → Int) (k e : Int) : -1 ≤ nmF f k e ∧ nmF f k e ≤ 99 := by
  unfold nmF
  split
  · next h =>
    obtain ⟨t, ht⟩ : ∃ t : Nat, (e - k).toNat = t + 1 := ⟨(e - k).toNat - 1, by omega⟩
    rw [ht]
    show -1 ≤ (if 48 ≤ f k ∧ f k ≤ 57 then dgF f t (k + 1) (10 * 0 + f k - 48) else -1) ∧ (if 48 ≤ f k ∧ f k ≤ 57 then dgF f t (k + 1) (10 * 0 + f k - 48) else -1) ≤ 99
    split
    · exact dgF_b (by omega) t (by omega)
    · omega
  · omega
theorem TK.r {f : Int → Int} {n : Int} {st kd vl : Int → Int} {m : Int} (h : TK f n st kd vl m) (hn : 0 ≤ n ∧ n ≤ 200) (hf : ∀ i : Int, 0 ≤ i ∧ i < n → 0 ≤ f i ∧ f i ≤ 255) : TKr st kd vl m := by
  obtain ⟨h1, h2, h3, h4, h5, h6⟩ := h
  refine ⟨by omega, fun i h0 hi => ?_⟩
  by_cases e : i = m - 1
  · rw [e, h4, h5, h6]; omega
  · obtain ⟨⟨g1, g2, g3, g4, g5⟩, -⟩ := h3 i h0 (by omega)
    rw [g4, g5]
    have hfi := hf (st i) (by omega)
    refine ⟨by omega, by unfold kdF; repeat' split; all_goals omega, ?_⟩
    unfold vlF
    have := wdF_b f (st i) (tkE f n (st i))
    have := nmF_b f (st i) (tkE f n (st i))
    repeat' split
    all_goals omega
end
section
/-- Reader.addToken -/
theorem ct_X5_addToken {x : CM} {d N : Nat} {σ : PH} {Q : PQ} {q : Nat} {st kd vl : Int → Int} {j i c : Int} (hR : Rd σ q st kd vl j i c) (hj : 0 ≤ j ∧ j < 201) {a b e : Int} (h : ∀ σ' : PH, Rd σ' q (upI st j a) (upI kd j b) (upI vl j e) (j + 1) i c → Fr σ σ' [q, q + 1, q + 2, q + 3] → Q none σ') : Call x d 0 0 mX5_addToken [vR q, vI a, vI b, vI e] N σ Q := by
  refine Call.of mcX5_addToken (Nat.le_of_ble_eq_true rfl) (fun y hy => ?_)
  subst hy
  obtain ⟨hq, h1, h2, h3⟩ := id hR
  refine P.aload_n (dq dtX5_addToken 0 rfl) rfl ?_
  refine P.get flX5_21 (dq dtX5_addToken 1 rfl) (by repeat (first | assumption | exact up_s | rw [up_n (by first | assumption | (apply Ne.symm; assumption) | decide | omega)])) (by rfl) ?_
  refine P.aload_n (dq dtX5_addToken 2 rfl) rfl ?_
  refine P.get flX5_9 (dq dtX5_addToken 3 rfl) (by repeat (first | assumption | exact up_s | rw [up_n (by first | assumption | (apply Ne.symm; assumption) | decide | omega)])) (by rfl) ?_
  refine P.alen (dq dtX5_addToken 4 rfl) (by repeat (first | assumption | exact up_s | rw [up_n (by first | assumption | (apply Ne.symm; assumption) | decide | omega)])) (by decide) ?_
  refine P.icmp_lt (t := 13) (dq dtX5_addToken 5 rfl) rfl (by omega) (by omega) (fun c_9 => ?_) (fun c_9 => ?_)
  · refine P.aload_n (dq dtX5_addToken 7 rfl) rfl ?_
    refine P.get flX5_9 (dq dtX5_addToken 8 rfl) (by repeat (first | assumption | exact up_s | rw [up_n (by first | assumption | (apply Ne.symm; assumption) | decide | omega)])) (by rfl) ?_
    refine P.aload_n (dq dtX5_addToken 9 rfl) rfl ?_
    refine P.get flX5_21 (dq dtX5_addToken 10 rfl) (by repeat (first | assumption | exact up_s | rw [up_n (by first | assumption | (apply Ne.symm; assumption) | decide | omega)])) (by rfl) ?_
    refine P.iload_n (dq dtX5_addToken 11 rfl) rfl ?_
    refine P.iast (dq dtX5_addToken 12 rfl) (by repeat (first | assumption | exact up_s | rw [up_n (by first | assumption | (apply Ne.symm; assumption) | decide | omega)])) (by omega) (by omega) (by omega) ?_
    refine P.aload_n (dq dtX5_addToken 13 rfl) rfl ?_
    refine P.get flX5_15 (dq dtX5_addToken 14 rfl) (by repeat (first | assumption | exact up_s | rw [up_n (by first | assumption | (apply Ne.symm; assumption) | decide | omega)])) (by rfl) ?_
    refine P.aload_n (dq dtX5_addToken 15 rfl) rfl ?_
    refine P.get flX5_21 (dq dtX5_addToken 16 rfl) (by repeat (first | assumption | exact up_s | rw [up_n (by first | assumption | (apply Ne.symm; assumption) | decide | omega)])) (by rfl) ?_
    refine P.iload_n (dq dtX5_addToken 17 rfl) rfl ?_
    refine P.iast (dq dtX5_addToken 18 rfl) (by repeat (first | assumption | exact up_s | rw [up_n (by first | assumption | (apply Ne.symm; assumption) | decide | omega)])) (by omega) (by omega) (by omega) ?_
    refine P.aload_n (dq dtX5_addToken 19 rfl) rfl ?_
    refine P.get flX5_18 (dq dtX5_addToken 20 rfl) (by repeat (first | assumption | exact up_s | rw [up_n (by first | assumption | (apply Ne.symm; assumption) | decide | omega)])) (by rfl) ?_
    refine P.aload_n (dq dtX5_addToken 21 rfl) rfl ?_
    refine P.get flX5_21 (dq dtX5_addToken 22 rfl) (by repeat (first | assumption | exact up_s | rw [up_n (by first | assumption | (apply Ne.symm; assumption) | decide | omega)])) (by rfl) ?_
    refine P.iload_n (dq dtX5_addToken 23 rfl) rfl ?_
    refine P.iast (dq dtX5_addToken 24 rfl) (by repeat (first | assumption | exact up_s | rw [up_n (by first | assumption | (apply Ne.symm; assumption) | decide | omega)])) (by omega) (by omega) (by omega) ?_
    refine P.aload_n (dq dtX5_addToken 25 rfl) rfl ?_
    refine P.dup (dq dtX5_addToken 26 rfl) rfl ?_
    refine P.get flX5_21 (dq dtX5_addToken 27 rfl) (by repeat (first | assumption | exact up_s | rw [up_n (by first | assumption | (apply Ne.symm; assumption) | decide | omega)])) (by rfl) ?_
    refine P.iconst (dq dtX5_addToken 28 rfl) ?_
    refine P.iadd (dq dtX5_addToken 29 rfl) ?_
    refine P.put flX5_21 rfl (dq dtX5_addToken 30 rfl) (by repeat (first | assumption | exact up_s | rw [up_n (by first | assumption | (apply Ne.symm; assumption) | decide | omega)])) (by exact Nat.le_of_ble_eq_true rfl) rfl rfl rfl rfl rfl ?_
    refine P.vret (dq dtX5_addToken 31 rfl) rfl rfl rfl ?_
    exact h _ ⟨(by repeat (first | assumption | exact up_s | rw [up_n (by first | assumption | (apply Ne.symm; assumption) | decide | omega)])), (by repeat (first | assumption | exact up_s | rw [up_n (by first | assumption | (apply Ne.symm; assumption) | decide | omega)])), (by repeat (first | assumption | exact up_s | rw [up_n (by first | assumption | (apply Ne.symm; assumption) | decide | omega)])), (by repeat (first | assumption | exact up_s | rw [up_n (by first | assumption | (apply Ne.symm; assumption) | decide | omega)]))⟩ (by repeat (first | assumption | exact Fr.rf | refine Fr.up ?_ (by simp)))
  · refine P.vret (dq dtX5_addToken 6 rfl) rfl rfl rfl ?_
    exfalso; omega
theorem lp_runS {x : CX} {d N : Nat} {σ : PH} {Q : PQ} {q tq : Nat} {n : Int} {f : Int → Int} (hL : Ls σ tq 200 n f) (hn : 0 ≤ n ∧ n ≤ 200) (hf : ∀ i : Int, 0 ≤ i ∧ i < n → 0 ≤ f i ∧ f i ≤ 255) (hd : 6 ≤ d) {k u : Int} (kk : P x d mX5_partIntoTokens Q (0, 0) 55 [some (vR q), some (vR tq), some (vI k), some (vI (rn bS f n u))] [] N σ) : ∀ (t : Nat) (e : Int), 0 ≤ e ∧ e ≤ n → n - e < t → rn bS f n e = rn bS f n u → P x d mX5_partIntoTokens Q (0, 0) 30 [some (vR q), some (vR tq), some (vI k), some (vI e)] [] N σ := by
  intro t
  induction t with
  | zero =>
    intro e he ht hr
    exfalso; omega
  | succ t ih =>
    intro e he ht hr
    have hLq := hL.1
    refine P.iload_n (dq dtX5_partIntoTokens_0 18 rfl) rfl ?_
    refine P.aload_n (dq dtX5_partIntoTokens_0 19 rfl) rfl ?_
    refine P.get flX5_46 (dq dtX5_partIntoTokens_0 20 rfl) (by repeat (first | assumption | exact up_s | rw [up_n (by first | assumption | (apply Ne.symm; assumption) | decide | omega)])) (by rfl) ?_
    refine P.icmp_ge (t := 55) (dq dtX5_partIntoTokens_0 21 rfl) rfl (by omega) (by omega) (fun c_35 => ?_) (fun c_35 => ?_)
    · first | (rw [rn_n (by omega)] at hr; rw [hr]; exact kk) | (rw [rn_n (fun h9 => m_43 (of_decide_eq_true h9.2))] at hr; rw [hr]; exact kk)
    · refine P.aload_n (dq dtX5_partIntoTokens_0 22 rfl) rfl ?_
      refine P.iload_n (dq dtX5_partIntoTokens_0 23 rfl) rfl ?_
      refine P.callV1 (M' := mX1_at) (d' := d - 1) mlX5_51 mcX1_at mvX1_at (dq dtX5_partIntoTokens_0 24 rfl) (by omega) (Nat.le_of_ble_eq_true rfl) (by repeat (first | assumption | exact up_s | rw [up_n (by first | assumption | (apply Ne.symm; assumption) | decide | omega)])) rfl ?_
      refine ct_X1_at hL.1 hL.2 (by omega) (by omega) (fun n_40 => ?_) (fun n_40 => absurd (by omega) n_40)
      have f_40 := hf _ n_40
      refine P.callSN1 (M' := mX6_isSmallLetter) (d' := d - 1) nlX5_55 mcX6_isSmallLetter msX6_isSmallLetter (dq dtX5_partIntoTokens_0 25 rfl) (by omega) (Nat.le_of_ble_eq_true rfl) ?_
      refine ct_X6_isSmallLetter (by omega) (fun m_43 => ?_) (fun m_43 => ?_)
      · refine P.if_eq (t := 55) (dq dtX5_partIntoTokens_0 26 rfl) rfl (by omega) (fun h9 => absurd h9 (by decide)) (fun _ => ?_)
        refine P.iinc (dq dtX5_partIntoTokens_0 27 rfl) rfl (by decide) rfl rfl ?_
        refine P.goto (t := 30) (dq dtX5_partIntoTokens_0 28 rfl) rfl ?_
        exact ih (e + 1) (by omega) (by omega) (by rw [← hr]; exact (rn_y (by omega) (decide_eq_true m_43)).symm)
      · refine P.if_eq (t := 55) (dq dtX5_partIntoTokens_0 26 rfl) rfl (by omega) (fun _ => ?_) (fun h9 => absurd h9 (by decide))
        first | (rw [rn_n (by omega)] at hr; rw [hr]; exact kk) | (rw [rn_n (fun h9 => m_43 (of_decide_eq_true h9.2))] at hr; rw [hr]; exact kk)
theorem lp_runD {x : CX} {d N : Nat} {σ : PH} {Q : PQ} {q tq : Nat} {n : Int} {f : Int → Int} (hL : Ls σ tq 200 n f) (hn : 0 ≤ n ∧ n ≤ 200) (hf : ∀ i : Int, 0 ≤ i ∧ i < n → 0 ≤ f i ∧ f i ≤ 255) (hd : 6 ≤ d) {k u : Int} (kk : P x d mX5_partIntoTokens Q (0, 0) 106 [some (vR q), some (vR tq), some (vI k), some (vI (rn bD f n u))] [] N σ) : ∀ (t : Nat) (e : Int), 0 ≤ e ∧ e ≤ n → n - e < t → rn bD f n e = rn bD f n u → P x d mX5_partIntoTokens Q (0, 0) 81 [some (vR q), some (vR tq), some (vI k), some (vI e)] [] N σ := by
  intro t
  induction t with
  | zero =>
    intro e he ht hr
    exfalso; omega
  | succ t ih =>
    intro e he ht hr
    have hLq := hL.1
    refine P.iload_n (dq dtX5_partIntoTokens_0 43 rfl) rfl ?_
    refine P.aload_n (dq dtX5_partIntoTokens_0 44 rfl) rfl ?_
    refine P.get flX5_46 (dq dtX5_partIntoTokens_0 45 rfl) (by repeat (first | assumption | exact up_s | rw [up_n (by first | assumption | (apply Ne.symm; assumption) | decide | omega)])) (by rfl) ?_
    refine P.icmp_ge (t := 106) (dq dtX5_partIntoTokens_0 46 rfl) rfl (by omega) (by omega) (fun c_86 => ?_) (fun c_86 => ?_)
    · first | (rw [rn_n (by omega)] at hr; rw [hr]; exact kk) | (rw [rn_n (fun h9 => m_94 (of_decide_eq_true h9.2))] at hr; rw [hr]; exact kk)
    · refine P.aload_n (dq dtX5_partIntoTokens_0 47 rfl) rfl ?_
      refine P.iload_n (dq dtX5_partIntoTokens_0 48 rfl) rfl ?_
      refine P.callV1 (M' := mX1_at) (d' := d - 1) mlX5_51 mcX1_at mvX1_at (dq dtX5_partIntoTokens_0 49 rfl) (by omega) (Nat.le_of_ble_eq_true rfl) (by repeat (first | assumption | exact up_s | rw [up_n (by first | assumption | (apply Ne.symm; assumption) | decide | omega)])) rfl ?_
      refine ct_X1_at hL.1 hL.2 (by omega) (by omega) (fun n_91 => ?_) (fun n_91 => absurd (by omega) n_91)
      have f_91 := hf _ n_91
      refine P.callSN1 (M' := mX6_isDigit) (d' := d - 1) nlX5_66 mcX6_isDigit msX6_isDigit (dq dtX5_partIntoTokens_0 50 rfl) (by omega) (Nat.le_of_ble_eq_true rfl) ?_
      refine ct_X6_isDigit (by omega) (fun m_94 => ?_) (fun m_94 => ?_)
      · refine P.if_eq (t := 106) (dq dtX5_partIntoTokens_0 51 rfl) rfl (by omega) (fun h9 => absurd h9 (by decide)) (fun _ => ?_)
        refine P.iinc (dq dtX5_partIntoTokens_0 52 rfl) rfl (by decide) rfl rfl ?_
        refine P.goto (t := 81) (dq dtX5_partIntoTokens_0 53 rfl) rfl ?_
        exact ih (e + 1) (by omega) (by omega) (by rw [← hr]; exact (rn_y (by omega) (decide_eq_true m_94)).symm)
      · refine P.if_eq (t := 106) (dq dtX5_partIntoTokens_0 51 rfl) rfl (by omega) (fun _ => ?_) (fun h9 => absurd h9 (by decide))
        first | (rw [rn_n (by omega)] at hr; rw [hr]; exact kk) | (rw [rn_n (fun h9 => m_94 (of_decide_eq_true h9.2))] at hr; rw [hr]; exact kk)
theorem lp_part {x : CX} {d N : Nat} {σ : PH} {Q : PQ} {q tq : Nat} {n : Int} {f : Int → Int} (hL : Ls σ tq 200 n f) (hn : 0 ≤ n ∧ n ≤ 200) (hf : ∀ i : Int, 0 ≤ i ∧ i < n → 0 ≤ f i ∧ f i ≤ 255) (hd : 6 ≤ d) {ti c : Int} (hqq : q + 3 < tq ∨ tq + 1 < q) (h : ∀ (σ' : PH) (st kd vl : Int → Int) (m : Int), Rd σ' q st kd vl m ti c → TK f n st kd vl m → Fr σ σ' [q, q + 1, q + 2, q + 3] → Q none σ') : ∀ (t : Nat) (k j : Int) (st kd vl : Int → Int) (σ' : PH), 0 ≤ k ∧ k ≤ n → n - k < t → Rd σ' q st kd vl j ti c → (0 ≤ j ∧ j ≤ k) → (∀ i : Int, 0 ≤ i → i < j → TK1 f n st kd vl i) → (∀ i : Int, 0 ≤ i → i + 1 < j → st (i + 1) = skp f n (tkE f n (st i))) → (0 < j → st 0 = skp f n 0 ∧ skp f n k = skp f n (tkE f n (st (j - 1)))) → (j = 0 → skp f n k = skp f n 0) → Fr σ σ' [q, q + 1, q + 2, q + 3] → P x d mX5_partIntoTokens Q (0, 0) 7 [some (vR q), some (vR tq), some (vI k), none] [] N σ' := by
  intro t
  induction t with
  | zero =>
    intro k j st kd vl σ' hk ht hR hj hA hB hC hD hF
    exfalso; omega
  | succ t ih =>
    intro k j st kd vl σ' hk ht hR hj hA hB hC hD hF
    have hL1 : Ls σ' tq 200 n f := hL.fr hF (by simp <;> omega) (by simp <;> omega)
    have hLq := hL1.1
    have hRq := hR.1
    refine P.iload_n (dq dtX5_partIntoTokens_0 5 rfl) rfl ?_
    refine P.aload_n (dq dtX5_partIntoTokens_0 6 rfl) rfl ?_
    refine P.get flX5_46 (dq dtX5_partIntoTokens_0 7 rfl) (by repeat (first | assumption | exact up_s | rw [up_n (by first | assumption | (apply Ne.symm; assumption) | decide | omega)])) (by rfl) ?_
    refine P.icmp_ge (t := 148) (dq dtX5_partIntoTokens_0 8 rfl) rfl (by omega) (by omega) (fun c_12 => ?_) (fun c_12 => ?_)
    · refine P.aload_n (dq dtX5_partIntoTokens_1 15 rfl) rfl ?_
      refine P.aload_n (dq dtX5_partIntoTokens_1 16 rfl) rfl ?_
      refine P.get flX5_46 (dq dtX5_partIntoTokens_1 17 rfl) (by repeat (first | assumption | exact up_s | rw [up_n (by first | assumption | (apply Ne.symm; assumption) | decide | omega)])) (by rfl) ?_
      refine P.iconst (dq dtX5_partIntoTokens_1 18 rfl) ?_
      refine P.iconst (dq dtX5_partIntoTokens_1 19 rfl) ?_
      refine P.callV3 (M' := mX5_addToken) (d' := d - 1) mlX5_62 mcX5_addToken mvX5_addToken (dq dtX5_partIntoTokens_1 20 rfl) (by omega) (Nat.le_of_ble_eq_true rfl) (by repeat (first | assumption | exact up_s | rw [up_n (by first | assumption | (apply Ne.symm; assumption) | decide | omega)])) rfl ?_
      refine ct_X5_addToken hR (by omega) (fun σ1 hR1 hF1 => ?_)
      refine P.vret (dq dtX5_partIntoTokens_1 21 rfl) rfl rfl rfl ?_
      obtain rfl : k = n := by omega
      have hks : skp f k k = k := rn_n (by omega)
      refine h σ1 (upI st j k) (upI kd j 0) (upI vl j 0) (j + 1) hR1 ⟨by omega, ?_, fun i g1 g2 => ⟨?_, ?_⟩, ?_, ?_, ?_⟩ (hF.trans hF1)
      · by_cases e : j = 0
        · have := hD e
          rw [e, upI_s, ← this, hks]
        · rw [upI_n (by omega)]
          exact (hC (by omega)).1
      · have := hA i g1 (by omega)
        unfold TK1 at this ⊢
        rw [upI_n (by omega), upI_n (by omega), upI_n (by omega)]
        exact this
      · by_cases e : i + 1 = j
        · rw [e, upI_s, upI_n (by omega)]
          have := (hC (by omega)).2
          rw [show j - 1 = i by omega] at this
          rw [← this, hks]
        · rw [upI_n e, upI_n (by omega)]
          exact hB i g1 (by omega)
      · rw [show j + 1 - 1 = j by omega, upI_s]
      · rw [show j + 1 - 1 = j by omega, upI_s]
      · rw [show j + 1 - 1 = j by omega, upI_s]
    · refine P.iload_n (dq dtX5_partIntoTokens_0 9 rfl) rfl ?_
      refine P.iconst (dq dtX5_partIntoTokens_0 10 rfl) ?_
      refine P.iadd (dq dtX5_partIntoTokens_0 11 rfl) ?_
      refine P.istore_n (dq dtX5_partIntoTokens_0 12 rfl) (by decide) rfl rfl ?_
      refine P.aload_n (dq dtX5_partIntoTokens_0 13 rfl) rfl ?_
      refine P.iload_n (dq dtX5_partIntoTokens_0 14 rfl) rfl ?_
      refine P.callV1 (M' := mX1_at) (d' := d - 1) mlX5_51 mcX1_at mvX1_at (dq dtX5_partIntoTokens_0 15 rfl) (by omega) (Nat.le_of_ble_eq_true rfl) (by repeat (first | assumption | exact up_s | rw [up_n (by first | assumption | (apply Ne.symm; assumption) | decide | omega)])) rfl ?_
      refine ct_X1_at hL1.1 hL1.2 (by omega) (by omega) (fun n_21 => ?_) (fun n_21 => absurd (by omega) n_21)
      have f_21 := hf _ n_21
      refine P.callSN1 (M' := mX6_isSmallLetter) (d' := d - 1) nlX5_55 mcX6_isSmallLetter msX6_isSmallLetter (dq dtX5_partIntoTokens_0 16 rfl) (by omega) (Nat.le_of_ble_eq_true rfl) ?_
      refine ct_X6_isSmallLetter (by omega) (fun m_24 => ?_) (fun m_24 => ?_)
      · refine P.if_eq (t := 70) (dq dtX5_partIntoTokens_0 17 rfl) rfl (by omega) (fun h9 => absurd h9 (by decide)) (fun _ => ?_)
        have hb8 := rn_bd (pr := bS) (f := f) (n := n) (k := k + 1)
        refine lp_runS (u := k + 1) hL1 hn hf hd ?_ (n - k + 1).toNat (k + 1) (by omega) (by omega) rfl
        refine P.aload_n (dq dtX5_partIntoTokens_0 29 rfl) rfl ?_
        refine P.iload_n (dq dtX5_partIntoTokens_0 30 rfl) rfl ?_
        refine P.iconst (dq dtX5_partIntoTokens_0 31 rfl) ?_
        refine P.aload_n (dq dtX5_partIntoTokens_0 32 rfl) rfl ?_
        refine P.iload_n (dq dtX5_partIntoTokens_0 33 rfl) rfl ?_
        refine P.iload_n (dq dtX5_partIntoTokens_0 34 rfl) rfl ?_
        refine P.callV2 (M' := mX1_wordIn) (d' := d - 1) mlX5_58 mcX1_wordIn mvX1_wordIn (dq dtX5_partIntoTokens_0 35 rfl) (by omega) (Nat.le_of_ble_eq_true rfl) (by repeat (first | assumption | exact up_s | rw [up_n (by first | assumption | (apply Ne.symm; assumption) | decide | omega)])) rfl ?_
        refine ct_X1_wordIn hL1.1 hL1.2 (by omega) (fun i hi => by have := hf i hi; omega) (by omega) (by omega) ?_
        refine P.callV3 (M' := mX5_addToken) (d' := d - 1) mlX5_62 mcX5_addToken mvX5_addToken (dq dtX5_partIntoTokens_0 36 rfl) (by omega) (Nat.le_of_ble_eq_true rfl) (by repeat (first | assumption | exact up_s | rw [up_n (by first | assumption | (apply Ne.symm; assumption) | decide | omega)])) rfl ?_
        refine ct_X5_addToken hR (by omega) (fun σ1 hR1 hF1 => ?_)
        refine P.goto (t := 143) (dq dtX5_partIntoTokens_0 37 rfl) rfl ?_
        refine P.iload_n (dq dtX5_partIntoTokens_1 12 rfl) rfl ?_
        refine P.istore_n (dq dtX5_partIntoTokens_1 13 rfl) (by decide) rfl rfl ?_
        refine P.goto (t := 7) (dq dtX5_partIntoTokens_1 14 rfl) rfl ?_
        have eT : tkE f n k = rn bS f n (k + 1) := if_pos (show bS (f k) = true from decide_eq_true m_24)
        have hb9 := tkE_b (f := f) (n := n) (k := k) (by omega)
        have hks : skp f n k = k := rn_n (fun h9 => (show f k ≠ 32 by omega) (of_decide_eq_true h9.2))
        refine P.keep [0, 1, 2] ?_
        refine ih (rn bS f n (k + 1)) (j + 1) (upI st j k) (upI kd j (1)) (upI vl j (wdF f k (rn bS f n (k + 1)))) σ1 (by omega) (by omega) hR1 (by omega) (fun i g1 g2 => ?_) (fun i g1 g2 => ?_) (fun _ => ⟨?_, ?_⟩) (fun h9 => absurd h9 (by omega)) (hF.trans hF1)
        · by_cases e : i = j
          · subst e
            unfold TK1
            rw [upI_s, upI_s, upI_s]
            exact ⟨by omega, by omega, by omega, (if_pos (show bS (f k) = true from decide_eq_true m_24)).symm, by { unfold vlF; rw [if_pos (show bS (f k) = true from decide_eq_true m_24), eT] }⟩
          · have := hA i g1 (by omega)
            unfold TK1 at this ⊢
            rw [upI_n e, upI_n e, upI_n e]
            exact this
        · by_cases e : i + 1 = j
          · rw [e, upI_s, upI_n (by omega)]
            have := (hC (by omega)).2
            rw [show j - 1 = i by omega] at this
            rw [← this, hks]
          · rw [upI_n e, upI_n (by omega)]
            exact hB i g1 (by omega)
        · by_cases e : j = 0
          · have := hD e
            rw [e, upI_s, ← this, hks]
          · rw [upI_n (by omega)]
            exact (hC (by omega)).1
        · rw [show j + 1 - 1 = j by omega, upI_s, eT]
      · refine P.if_eq (t := 70) (dq dtX5_partIntoTokens_0 17 rfl) rfl (by omega) (fun _ => ?_) (fun h9 => absurd h9 (by decide))
        refine P.aload_n (dq dtX5_partIntoTokens_0 38 rfl) rfl ?_
        refine P.iload_n (dq dtX5_partIntoTokens_0 39 rfl) rfl ?_
        refine P.callV1 (M' := mX1_at) (d' := d - 1) mlX5_51 mcX1_at mvX1_at (dq dtX5_partIntoTokens_0 40 rfl) (by omega) (Nat.le_of_ble_eq_true rfl) (by repeat (first | assumption | exact up_s | rw [up_n (by first | assumption | (apply Ne.symm; assumption) | decide | omega)])) rfl ?_
        refine ct_X1_at hL1.1 hL1.2 (by omega) (by omega) (fun n_72 => ?_) (fun n_72 => absurd (by omega) n_72)
        have f_72 := hf _ n_72
        refine P.callSN1 (M' := mX6_isDigit) (d' := d - 1) nlX5_66 mcX6_isDigit msX6_isDigit (dq dtX5_partIntoTokens_0 41 rfl) (by omega) (Nat.le_of_ble_eq_true rfl) ?_
        refine ct_X6_isDigit (by omega) (fun m_75 => ?_) (fun m_75 => ?_)
        · refine P.if_eq (t := 122) (dq dtX5_partIntoTokens_0 42 rfl) rfl (by omega) (fun h9 => absurd h9 (by decide)) (fun _ => ?_)
          have hb8 := rn_bd (pr := bD) (f := f) (n := n) (k := k + 1)
          refine lp_runD (u := k + 1) hL1 hn hf hd ?_ (n - k + 1).toNat (k + 1) (by omega) (by omega) rfl
          refine P.aload_n (dq dtX5_partIntoTokens_0 54 rfl) rfl ?_
          refine P.iload_n (dq dtX5_partIntoTokens_0 55 rfl) rfl ?_
          refine P.iconst (dq dtX5_partIntoTokens_0 56 rfl) ?_
          refine P.aload_n (dq dtX5_partIntoTokens_0 57 rfl) rfl ?_
          refine P.iload_n (dq dtX5_partIntoTokens_0 58 rfl) rfl ?_
          refine P.iload_n (dq dtX5_partIntoTokens_0 59 rfl) rfl ?_
          refine P.iconst (dq dtX5_partIntoTokens_0 60 rfl) ?_
          refine P.callV3 (M' := mX1_numberIn) (d' := d - 1) mlX5_69 mcX1_numberIn mvX1_numberIn (dq dtX5_partIntoTokens_0 61 rfl) (by omega) (Nat.le_of_ble_eq_true rfl) (by repeat (first | assumption | exact up_s | rw [up_n (by first | assumption | (apply Ne.symm; assumption) | decide | omega)])) rfl ?_
          refine ct_X1_numberIn hL1.1 hL1.2 (by omega) (fun i hi => by have := hf i hi; omega) (by omega) (by omega) (by omega) (fun n_113 => ?_) (fun n_113 => ?_)
          · refine P.callV3 (M' := mX5_addToken) (d' := d - 1) mlX5_62 mcX5_addToken mvX5_addToken (dq dtX5_partIntoTokens_0 62 rfl) (by omega) (Nat.le_of_ble_eq_true rfl) (by repeat (first | assumption | exact up_s | rw [up_n (by first | assumption | (apply Ne.symm; assumption) | decide | omega)])) rfl ?_
            refine ct_X5_addToken hR (by omega) (fun σ1 hR1 hF1 => ?_)
            refine P.goto (t := 143) (dq dtX5_partIntoTokens_0 63 rfl) rfl ?_
            refine P.iload_n (dq dtX5_partIntoTokens_1 12 rfl) rfl ?_
            refine P.istore_n (dq dtX5_partIntoTokens_1 13 rfl) (by decide) rfl rfl ?_
            refine P.goto (t := 7) (dq dtX5_partIntoTokens_1 14 rfl) rfl ?_
            have eT : tkE f n k = rn bD f n (k + 1) := (if_neg (show ¬ bS (f k) = true from fun h9 => m_24 (of_decide_eq_true h9))).trans (if_pos (show bD (f k) = true from decide_eq_true m_75))
            have hb9 := tkE_b (f := f) (n := n) (k := k) (by omega)
            have hks : skp f n k = k := rn_n (fun h9 => (show f k ≠ 32 by omega) (of_decide_eq_true h9.2))
            refine P.keep [0, 1, 2] ?_
            refine ih (rn bD f n (k + 1)) (j + 1) (upI st j k) (upI kd j (2)) (upI vl j (-1)) σ1 (by omega) (by omega) hR1 (by omega) (fun i g1 g2 => ?_) (fun i g1 g2 => ?_) (fun _ => ⟨?_, ?_⟩) (fun h9 => absurd h9 (by omega)) (hF.trans hF1)
            · by_cases e : i = j
              · subst e
                unfold TK1
                rw [upI_s, upI_s, upI_s]
                exact ⟨by omega, by omega, by omega, ((if_neg (show ¬ bS (f k) = true from fun h9 => m_24 (of_decide_eq_true h9))).trans (if_pos (show bD (f k) = true from decide_eq_true m_75))).symm, by { unfold vlF; rw [if_neg (show ¬ bS (f k) = true from fun h9 => m_24 (of_decide_eq_true h9)), if_pos (show bD (f k) = true from decide_eq_true m_75), eT]; unfold nmF; rw [if_neg n_113] }⟩
              · have := hA i g1 (by omega)
                unfold TK1 at this ⊢
                rw [upI_n e, upI_n e, upI_n e]
                exact this
            · by_cases e : i + 1 = j
              · rw [e, upI_s, upI_n (by omega)]
                have := (hC (by omega)).2
                rw [show j - 1 = i by omega] at this
                rw [← this, hks]
              · rw [upI_n e, upI_n (by omega)]
                exact hB i g1 (by omega)
            · by_cases e : j = 0
              · have := hD e
                rw [e, upI_s, ← this, hks]
              · rw [upI_n (by omega)]
                exact (hC (by omega)).1
            · rw [show j + 1 - 1 = j by omega, upI_s, eT]
          · refine P.callV3 (M' := mX5_addToken) (d' := d - 1) mlX5_62 mcX5_addToken mvX5_addToken (dq dtX5_partIntoTokens_0 62 rfl) (by omega) (Nat.le_of_ble_eq_true rfl) (by repeat (first | assumption | exact up_s | rw [up_n (by first | assumption | (apply Ne.symm; assumption) | decide | omega)])) rfl ?_
            refine ct_X5_addToken hR (by omega) (fun σ1 hR1 hF1 => ?_)
            refine P.goto (t := 143) (dq dtX5_partIntoTokens_0 63 rfl) rfl ?_
            refine P.iload_n (dq dtX5_partIntoTokens_1 12 rfl) rfl ?_
            refine P.istore_n (dq dtX5_partIntoTokens_1 13 rfl) (by decide) rfl rfl ?_
            refine P.goto (t := 7) (dq dtX5_partIntoTokens_1 14 rfl) rfl ?_
            have eT : tkE f n k = rn bD f n (k + 1) := (if_neg (show ¬ bS (f k) = true from fun h9 => m_24 (of_decide_eq_true h9))).trans (if_pos (show bD (f k) = true from decide_eq_true m_75))
            have hb9 := tkE_b (f := f) (n := n) (k := k) (by omega)
            have hks : skp f n k = k := rn_n (fun h9 => (show f k ≠ 32 by omega) (of_decide_eq_true h9.2))
            refine P.keep [0, 1, 2] ?_
            refine ih (rn bD f n (k + 1)) (j + 1) (upI st j k) (upI kd j (2)) (upI vl j (dgF f (rn bD f n (k + 1) - k).toNat k 0)) σ1 (by omega) (by omega) hR1 (by omega) (fun i g1 g2 => ?_) (fun i g1 g2 => ?_) (fun _ => ⟨?_, ?_⟩) (fun h9 => absurd h9 (by omega)) (hF.trans hF1)
            · by_cases e : i = j
              · subst e
                unfold TK1
                rw [upI_s, upI_s, upI_s]
                exact ⟨by omega, by omega, by omega, ((if_neg (show ¬ bS (f k) = true from fun h9 => m_24 (of_decide_eq_true h9))).trans (if_pos (show bD (f k) = true from decide_eq_true m_75))).symm, by { unfold vlF; rw [if_neg (show ¬ bS (f k) = true from fun h9 => m_24 (of_decide_eq_true h9)), if_pos (show bD (f k) = true from decide_eq_true m_75), eT]; unfold nmF; rw [if_pos n_113] }⟩
              · have := hA i g1 (by omega)
                unfold TK1 at this ⊢
                rw [upI_n e, upI_n e, upI_n e]
                exact this
            · by_cases e : i + 1 = j
              · rw [e, upI_s, upI_n (by omega)]
                have := (hC (by omega)).2
                rw [show j - 1 = i by omega] at this
                rw [← this, hks]
              · rw [upI_n e, upI_n (by omega)]
                exact hB i g1 (by omega)
            · by_cases e : j = 0
              · have := hD e
                rw [e, upI_s, ← this, hks]
              · rw [upI_n (by omega)]
                exact (hC (by omega)).1
            · rw [show j + 1 - 1 = j by omega, upI_s, eT]
        · refine P.if_eq (t := 122) (dq dtX5_partIntoTokens_0 42 rfl) rfl (by omega) (fun _ => ?_) (fun h9 => absurd h9 (by decide))
          refine P.aload_n (dq dtX5_partIntoTokens_1 0 rfl) rfl ?_
          refine P.iload_n (dq dtX5_partIntoTokens_1 1 rfl) rfl ?_
          refine P.callV1 (M' := mX1_at) (d' := d - 1) mlX5_51 mcX1_at mvX1_at (dq dtX5_partIntoTokens_1 2 rfl) (by omega) (Nat.le_of_ble_eq_true rfl) (by repeat (first | assumption | exact up_s | rw [up_n (by first | assumption | (apply Ne.symm; assumption) | decide | omega)])) rfl ?_
          refine ct_X1_at hL1.1 hL1.2 (by omega) (by omega) (fun n_124 => ?_) (fun n_124 => absurd (by omega) n_124)
          have f_124 := hf _ n_124
          refine P.bipush (dq dtX5_partIntoTokens_1 3 rfl) rfl ?_
          refine P.icmp_eq (t := 143) (dq dtX5_partIntoTokens_1 4 rfl) rfl (by omega) (by omega) (fun c_129 => ?_) (fun c_129 => ?_)
          · refine P.iload_n (dq dtX5_partIntoTokens_1 12 rfl) rfl ?_
            refine P.istore_n (dq dtX5_partIntoTokens_1 13 rfl) (by decide) rfl rfl ?_
            refine P.goto (t := 7) (dq dtX5_partIntoTokens_1 14 rfl) rfl ?_
            refine P.keep [0, 1, 2] ?_
            refine ih (k + 1) j st kd vl σ' (by omega) (by omega) hR (by omega) hA hB (fun h9 => ⟨(hC h9).1, by rw [← (hC h9).2]; exact (rn_y (by omega) (decide_eq_true (show f k = 32 by omega))).symm⟩) (fun h9 => by rw [← hD h9]; exact (rn_y (by omega) (decide_eq_true (show f k = 32 by omega))).symm) hF
          · refine P.aload_n (dq dtX5_partIntoTokens_1 5 rfl) rfl ?_
            refine P.iload_n (dq dtX5_partIntoTokens_1 6 rfl) rfl ?_
            refine P.iconst (dq dtX5_partIntoTokens_1 7 rfl) ?_
            refine P.aload_n (dq dtX5_partIntoTokens_1 8 rfl) rfl ?_
            refine P.iload_n (dq dtX5_partIntoTokens_1 9 rfl) rfl ?_
            refine P.callV1 (M' := mX1_at) (d' := d - 1) mlX5_51 mcX1_at mvX1_at (dq dtX5_partIntoTokens_1 10 rfl) (by omega) (Nat.le_of_ble_eq_true rfl) (by repeat (first | assumption | exact up_s | rw [up_n (by first | assumption | (apply Ne.symm; assumption) | decide | omega)])) rfl ?_
            refine ct_X1_at hL1.1 hL1.2 (by omega) (by omega) (fun n_137 => ?_) (fun n_137 => absurd (by omega) n_137)
            have f_137 := hf _ n_137
            refine P.callV3 (M' := mX5_addToken) (d' := d - 1) mlX5_62 mcX5_addToken mvX5_addToken (dq dtX5_partIntoTokens_1 11 rfl) (by omega) (Nat.le_of_ble_eq_true rfl) (by repeat (first | assumption | exact up_s | rw [up_n (by first | assumption | (apply Ne.symm; assumption) | decide | omega)])) rfl ?_
            refine ct_X5_addToken hR (by omega) (fun σ1 hR1 hF1 => ?_)
            refine P.iload_n (dq dtX5_partIntoTokens_1 12 rfl) rfl ?_
            refine P.istore_n (dq dtX5_partIntoTokens_1 13 rfl) (by decide) rfl rfl ?_
            refine P.goto (t := 7) (dq dtX5_partIntoTokens_1 14 rfl) rfl ?_
            have eT : tkE f n k = k + 1 := (if_neg (show ¬ bS (f k) = true from fun h9 => m_24 (of_decide_eq_true h9))).trans (if_neg (show ¬ bD (f k) = true from fun h9 => m_75 (of_decide_eq_true h9)))
            have hb9 := tkE_b (f := f) (n := n) (k := k) (by omega)
            have hks : skp f n k = k := rn_n (fun h9 => (show f k ≠ 32 by omega) (of_decide_eq_true h9.2))
            refine P.keep [0, 1, 2] ?_
            refine ih (k + 1) (j + 1) (upI st j k) (upI kd j (3)) (upI vl j (f k)) σ1 (by omega) (by omega) hR1 (by omega) (fun i g1 g2 => ?_) (fun i g1 g2 => ?_) (fun _ => ⟨?_, ?_⟩) (fun h9 => absurd h9 (by omega)) (hF.trans hF1)
            · by_cases e : i = j
              · subst e
                unfold TK1
                rw [upI_s, upI_s, upI_s]
                exact ⟨by omega, by omega, by omega, ((if_neg (show ¬ bS (f k) = true from fun h9 => m_24 (of_decide_eq_true h9))).trans (if_neg (show ¬ bD (f k) = true from fun h9 => m_75 (of_decide_eq_true h9)))).symm, by { unfold vlF; rw [if_neg (show ¬ bS (f k) = true from fun h9 => m_24 (of_decide_eq_true h9)), if_neg (show ¬ bD (f k) = true from fun h9 => m_75 (of_decide_eq_true h9))] }⟩
              · have := hA i g1 (by omega)
                unfold TK1 at this ⊢
                rw [upI_n e, upI_n e, upI_n e]
                exact this
            · by_cases e : i + 1 = j
              · rw [e, upI_s, upI_n (by omega)]
                have := (hC (by omega)).2
                rw [show j - 1 = i by omega] at this
                rw [← this, hks]
              · rw [upI_n e, upI_n (by omega)]
                exact hB i g1 (by omega)
            · by_cases e : j = 0
              · have := hD e
                rw [e, upI_s, ← this, hks]
              · rw [upI_n (by omega)]
                exact (hC (by omega)).1
            · rw [show j + 1 - 1 = j by omega, upI_s, eT]
end
section
/-- Reader.partIntoTokens -/
theorem ct_X5_partIntoTokens {x : CM} {d N : Nat} {σ : PH} {Q : PQ} {q tq : Nat} {st0 kd0 vl0 : Int → Int} {m0 ti c : Int} (hR0 : Rd σ q st0 kd0 vl0 m0 ti c) (hqq : q + 3 < tq ∨ tq + 1 < q) {n : Int} {f : Int → Int} (hL : Ls σ tq 200 n f) (hn : 0 ≤ n ∧ n ≤ 200) (hf : ∀ i : Int, 0 ≤ i ∧ i < n → 0 ≤ f i ∧ f i ≤ 255) (hd : 6 ≤ d) (h : ∀ (σ' : PH) (st kd vl : Int → Int) (m : Int), Rd σ' q st kd vl m ti c → TK f n st kd vl m → Fr σ σ' [q, q + 1, q + 2, q + 3] → Q none σ') : Call x d 0 0 mX5_partIntoTokens [vR q, vR tq] N σ Q := by
  refine Call.of mcX5_partIntoTokens (Nat.le_of_ble_eq_true rfl) (fun y hy => ?_)
  subst hy
  obtain ⟨hq0, hq1, hq2, hq3⟩ := id hR0
  refine P.aload_n (dq dtX5_partIntoTokens_0 0 rfl) rfl ?_
  refine P.iconst (dq dtX5_partIntoTokens_0 1 rfl) ?_
  refine P.put flX5_21 rfl (dq dtX5_partIntoTokens_0 2 rfl) (by repeat (first | assumption | exact up_s | rw [up_n (by first | assumption | (apply Ne.symm; assumption) | decide | omega)])) (by exact Nat.le_of_ble_eq_true rfl) rfl rfl rfl rfl rfl ?_
  refine P.iconst (dq dtX5_partIntoTokens_0 3 rfl) ?_
  refine P.istore_n (dq dtX5_partIntoTokens_0 4 rfl) (by decide) rfl rfl ?_
  refine P.keep [0, 1, 2] ?_
  exact lp_part hL hn hf hd hqq h (n + 1).toNat 0 0 st0 kd0 vl0 _ (by omega) (by omega) ⟨(by repeat (first | assumption | exact up_s | rw [up_n (by first | assumption | (apply Ne.symm; assumption) | decide | omega)])), (by repeat (first | assumption | exact up_s | rw [up_n (by first | assumption | (apply Ne.symm; assumption) | decide | omega)])), (by repeat (first | assumption | exact up_s | rw [up_n (by first | assumption | (apply Ne.symm; assumption) | decide | omega)])), (by repeat (first | assumption | exact up_s | rw [up_n (by first | assumption | (apply Ne.symm; assumption) | decide | omega)]))⟩ (by omega) (fun i g1 g2 => absurd g1 (by omega)) (fun i g1 g2 => absurd g1 (by omega)) (fun h9 => absurd h9 (by omega)) (fun _ => rfl) (by repeat (first | assumption | exact Fr.rf | refine Fr.up ?_ (by simp)))
/-- Reader.readInto -/
theorem ct_X5_readInto {x : CM} {d N : Nat} {σ : PH} {Q : PQ} {q mq tq : Nat} {st0 kd0 vl0 : Int → Int} {m0 ti c n : Int} {f : Int → Int} {v : MsV} (hR0 : Rd σ q st0 kd0 vl0 m0 ti c) (hM : Ms σ mq v) (hG : GMs v) (hL : Ls σ tq 200 n f) (hn : 0 ≤ n ∧ n ≤ 200) (hf : ∀ i : Int, 0 ≤ i ∧ i < n → 0 ≤ f i ∧ f i ≤ 255) (hd : 7 ≤ d) (hqt : q + 3 < tq ∨ tq + 1 < q) (hqm : q + 3 < mq ∨ mq + 2 < q) (h : ∀ (σ' : PH) (st kd vl : Int → Int) (m j : Int), TK f n st kd vl m → Rd σ' q st kd vl m j (pTx (fun f => f) kd vl m 24 1 0 v).2.2.2 → Ms σ' mq (pTx (fun f => f) kd vl m 24 1 0 v).2.2.1 → Fr σ σ' [q, q + 1, q + 2, q + 3, mq, mq + 1, mq + 2] → Q (some (vI (if (pTx (fun f => f) kd vl m 24 1 0 v).1 = 1 then -1 else st (pTx (fun f => f) kd vl m 24 1 0 v).2.1))) σ') : Call x d 0 0 mX5_readInto [vR q, vR mq, vR tq] N σ Q := by
  refine Call.of mcX5_readInto (Nat.le_of_ble_eq_true rfl) (fun y hy => ?_)
  subst hy
  have hRq := hR0.1
  refine P.aload_n (dq dtX5_readInto 0 rfl) rfl ?_
  refine P.aload_n (dq dtX5_readInto 1 rfl) rfl ?_
  refine P.callV1 (M' := mX5_partIntoTokens) (d' := d - 1) mlX5_31 mcX5_partIntoTokens mvX5_partIntoTokens (dq dtX5_readInto 2 rfl) (by omega) (Nat.le_of_ble_eq_true rfl) (by repeat (first | assumption | exact up_s | rw [up_n (by first | assumption | (apply Ne.symm; assumption) | decide | omega)])) rfl ?_
  refine ct_X5_partIntoTokens hR0 hqt hL hn hf (by omega) (fun σ1 st kd vl m hR1 hK hF1 => ?_)
  have hT := hK.r hn hf
  have hRq1 := hR1.1
  have hM1 : Ms σ1 mq v := hM.fr hF1 (by simp <;> omega) (by simp <;> omega) (by simp <;> omega)
  refine P.aload_n (dq dtX5_readInto 3 rfl) rfl ?_
  refine P.iconst (dq dtX5_readInto 4 rfl) ?_
  refine P.put flX5_25 rfl (dq dtX5_readInto 5 rfl) (by repeat (first | assumption | exact up_s | rw [up_n (by first | assumption | (apply Ne.symm; assumption) | decide | omega)])) (by exact Nat.le_of_ble_eq_true rfl) rfl rfl rfl rfl rfl ?_
  refine P.aload_n (dq dtX5_readInto 6 rfl) rfl ?_
  refine P.iconst (dq dtX5_readInto 7 rfl) ?_
  refine P.put flX5_28 rfl (dq dtX5_readInto 8 rfl) (by repeat (first | assumption | exact up_s | rw [up_n (by first | assumption | (apply Ne.symm; assumption) | decide | omega)])) (by exact Nat.le_of_ble_eq_true rfl) rfl rfl rfl rfl rfl ?_
  rw [up_up]
  refine lp_readInto (tq := tq) hT hqm (by omega) 24 1 0 v _ hG (by omega) (by omega) (by omega) (by have := hT.1; omega) hR1.up (hM1.fr (S := [q]) (by repeat (first | assumption | exact Fr.rf | refine Fr.up ?_ (by simp))) (by simp <;> omega) (by simp <;> omega) (by simp <;> omega)) (fun σ' j q1 q2 q3 => h σ' st kd vl m j hK q1 q2 ((hF1.wide (by simp)).trans ((Fr.wide (S := [q]) (by repeat (first | assumption | exact Fr.rf | refine Fr.up ?_ (by simp))) (by simp)).trans (q3.wide (by simp)))))
end
section
/-! the object AxisTable: its cells 0 .. 83 -/
/-- text; now; the past (next, count, the eight); kept (which, the two); labels (there, lengths, letters) -/
abbrev CSt : Type := (Int × (Int → Int)) × MoV × (Int × Int × (Nat → MoV)) × ((Int → Int) × (Nat → MoV)) × ((Int → Int) × (Nat → Int) × (Nat → Int → Int))
abbrev CSt.tn (S : CSt) : Int := S.1.1
abbrev CSt.tf (S : CSt) : Int → Int := S.1.2
abbrev CSt.now (S : CSt) : MoV := S.2.1
abbrev CSt.nxt (S : CSt) : Int := S.2.2.1.1
abbrev CSt.ct (S : CSt) : Int := S.2.2.1.2.1
abbrev CSt.pm (S : CSt) : Nat → MoV := S.2.2.1.2.2
abbrev CSt.ik (S : CSt) : Int → Int := S.2.2.2.1.1
abbrev CSt.km (S : CSt) : Nat → MoV := S.2.2.2.1.2
abbrev CSt.it (S : CSt) : Int → Int := S.2.2.2.2.1
abbrev CSt.ln (S : CSt) : Nat → Int := S.2.2.2.2.2.1
abbrev CSt.lf (S : CSt) : Nat → Int → Int := S.2.2.2.2.2.2
def CX0 (σ : PH) : Prop := σ 0 = pcO 6 [vR 1, vR 3, vR 7, vR 11, vR 45, vR 46, vR 47, vR 55, vR 58, vR 66, vR 68, vR 69] ∧ (∃ g : Int → Option Nat, σ 12 = pcR 3 8 g ∧ ∀ i : Int, 0 ≤ i → i < 8 → g i = some (13 + 4 * i.toNat)) ∧ (∃ g : Int → Option Nat, σ 45 = pcR 3 2 g ∧ ∀ i : Int, 0 ≤ i → i < 2 → g i = some (70 + 4 * i.toNat)) ∧ (∃ g : Int → Option Nat, σ 68 = pcR 2 3 g ∧ ∀ i : Int, 0 ≤ i → i < 3 → g i = some (78 + 2 * i.toNat))
/-- the table of what is measured -/
def tbl (v : MsV) (F : FgV) : List Int := shA F.2.2.2.2.2.2 v.2.1 v.1 (plc v.1 (plp v))
def CFg (σ : PH) (v : MsV) (F : FgV) (f : Int → Int) : Prop := Fg σ 47 v F ∧ Ls σ 66 128 (tbl v F).length f ∧ Rp f (tbl v F)
def GMo (w : MoV) : Prop := GMs w.1 ∧ (-100000 ≤ w.2.1 ∧ w.2.1 ≤ 100000) ∧ (-100000 ≤ w.2.2.1 ∧ w.2.2.1 ≤ 100000) ∧ (w.2.2.2.2.2 = 0 ∨ w.2.2.2.2.2 = 1)
def CG (S : CSt) : Prop := ((0 ≤ S.tn ∧ S.tn ≤ 200) ∧ ∀ i : Int, 0 ≤ i ∧ i < S.tn → 0 ≤ S.tf i ∧ S.tf i ≤ 255) ∧ GMo S.now ∧ ((0 ≤ S.nxt ∧ S.nxt < 8) ∧ (0 ≤ S.ct ∧ S.ct ≤ 8) ∧ ∀ i : Nat, i < 8 → GMo (S.pm i)) ∧ ((∀ i : Int, 0 ≤ i → i < 2 → S.ik i = 0 ∨ S.ik i = 1) ∧ ∀ i : Nat, i < 2 → GMo (S.km i)) ∧ (∀ i : Int, 0 ≤ i → i < 3 → S.it i = 0 ∨ S.it i = 1) ∧ ∀ i : Nat, i < 3 → (0 ≤ S.ln i ∧ S.ln i ≤ 24) ∧ ∀ j : Int, 0 ≤ j ∧ j < S.ln i → 32 ≤ S.lf i j ∧ S.lf i j ≤ 126
def CTx (σ : PH) (S : CSt) : Prop := Ls σ 1 200 S.tn S.tf
def CRd (σ : PH) : Prop := ∃ (st kd vl : Int → Int) (m i c : Int), Rd σ 3 st kd vl m i c
def CPa (σ : PH) (S : CSt) : Prop := σ 11 = pcO 4 [vR 12, vI S.nxt, vI S.ct] ∧ ∀ i : Nat, i < 8 → Mo σ (13 + 4 * i) (S.pm i)
def CKe (σ : PH) (S : CSt) : Prop := σ 46 = pcI 1 2 S.ik ∧ ∀ i : Nat, i < 2 → Mo σ (70 + 4 * i) (S.km i)
def CLa (σ : PH) (S : CSt) : Prop := σ 69 = pcI 1 3 S.it ∧ ∀ i : Nat, i < 3 → Ls σ (78 + 2 * i) 24 (S.ln i) (S.lf i)
def CS (σ : PH) (S : CSt) : Prop := CG S ∧ CX0 σ ∧ CTx σ S ∧ CRd σ ∧ Mo σ 7 S.now ∧ CPa σ S ∧ CKe σ S ∧ (∃ (F : FgV) (f : Int → Int), CFg σ S.now.1 F f) ∧ (∃ v : MsV, Ms σ 55 v) ∧ Fg0 σ 58 ∧ CLa σ S
/-- none of a row of places -/
def out (L : List Nat) (a n : Nat) : Bool := L.all fun j => decide (j < a ∨ a + n ≤ j)
theorem out_n {L : List Nat} {a n j : Nat} (h : out L a n = true) (h1 : a ≤ j) (h2 : j < a + n) : j ∉ L := by
  intro hj
  have := List.all_eq_true.mp h j hj
  have := of_decide_eq_true this
  omega
section
variable {σ σ' : PH} {L : List Nat} {S : CSt}
theorem CX0.fr (h : CX0 σ) (hF : Fr σ σ' L) (h1 : out L 0 1 = true) (h2 : out L 12 1 = true) (h3 : out L 45 1 = true) (h4 : out L 68 1 = true) : CX0 σ' := by
  obtain ⟨a, ⟨g1, b1, c1⟩, ⟨g2, b2, c2⟩, g3, b3, c3⟩ := h
  exact ⟨(hF 0 (out_n h1 (by omega) (by omega))).trans a, ⟨g1, (hF 12 (out_n h2 (by omega) (by omega))).trans b1, c1⟩, ⟨g2, (hF 45 (out_n h3 (by omega) (by omega))).trans b2, c2⟩, g3, (hF 68 (out_n h4 (by omega) (by omega))).trans b3, c3⟩
theorem CTx.fr (h : CTx σ S) (hF : Fr σ σ' L) (h1 : out L 1 2 = true) : CTx σ' S := Ls.fr h hF (out_n h1 (by omega) (by omega)) (out_n h1 (by omega) (by omega))
theorem CRd.fr (h : CRd σ) (hF : Fr σ σ' L) (h1 : out L 3 4 = true) : CRd σ' := by
  obtain ⟨st, kd, vl, m, i, c, hR⟩ := h
  exact ⟨st, kd, vl, m, i, c, hR.fr hF (out_n h1 (by omega) (by omega)) (out_n h1 (by omega) (by omega)) (out_n h1 (by omega) (by omega)) (out_n h1 (by omega) (by omega))⟩
theorem Mo.fr4 {q : Nat} {v : MoV} (h : Mo σ q v) (hF : Fr σ σ' L) (h1 : out L q 4 = true) : Mo σ' q v := h.fr hF (out_n h1 (by omega) (by omega)) (out_n h1 (by omega) (by omega)) (out_n h1 (by omega) (by omega)) (out_n h1 (by omega) (by omega))
theorem Ms.fr3 {q : Nat} {v : MsV} (h : Ms σ q v) (hF : Fr σ σ' L) (h1 : out L q 3 = true) : Ms σ' q v := h.fr hF (out_n h1 (by omega) (by omega)) (out_n h1 (by omega) (by omega)) (out_n h1 (by omega) (by omega))
theorem out_sub {L : List Nat} {a n b m : Nat} (h : out L a n = true) (h1 : a ≤ b) (h2 : b + m ≤ a + n) : out L b m = true := by
  refine List.all_eq_true.mpr fun j hj => ?_
  have := of_decide_eq_true (List.all_eq_true.mp h j hj)
  exact decide_eq_true (by omega)
theorem CPa.fr (h : CPa σ S) (hF : Fr σ σ' L) (h1 : out L 11 1 = true) (h2 : out L 13 32 = true) : CPa σ' S := ⟨(hF 11 (out_n h1 (by omega) (by omega))).trans h.1, fun i hi => (h.2 i hi).fr4 hF (out_sub h2 (by omega) (by omega))⟩
theorem CKe.fr (h : CKe σ S) (hF : Fr σ σ' L) (h1 : out L 46 1 = true) (h2 : out L 70 8 = true) : CKe σ' S := ⟨(hF 46 (out_n h1 (by omega) (by omega))).trans h.1, fun i hi => (h.2 i hi).fr4 hF (out_sub h2 (by omega) (by omega))⟩
theorem CLa.fr (h : CLa σ S) (hF : Fr σ σ' L) (h1 : out L 69 1 = true) (h2 : out L 78 6 = true) : CLa σ' S := ⟨(hF 69 (out_n h1 (by omega) (by omega))).trans h.1, fun i hi => Ls.fr (h.2 i hi) hF (out_n h2 (by omega) (by omega)) (out_n h2 (by omega) (by omega))⟩
theorem Fg.fr {q : Nat} {v : MsV} {F : FgV} (h : Fg σ q v F) (hF : Fr σ σ' L) (h1 : out L q 8 = true) : Fg σ' q v F := by
  obtain ⟨a0, a1, a2, a3, a4, a5, a6, a7, r⟩ := h
  have k : ∀ j : Nat, q ≤ j → j < q + 8 → σ' j = σ j := fun j g1 g2 => hF j (out_n h1 g1 g2)
  exact ⟨(k _ (by omega) (by omega)).trans a0, (k _ (by omega) (by omega)).trans a1, (k _ (by omega) (by omega)).trans a2, (k _ (by omega) (by omega)).trans a3, (k _ (by omega) (by omega)).trans a4, (k _ (by omega) (by omega)).trans a5, (k _ (by omega) (by omega)).trans a6, (k _ (by omega) (by omega)).trans a7, r⟩
theorem Fg0.fr {q : Nat} (h : Fg0 σ q) (hF : Fr σ σ' L) (h1 : out L q 8 = true) : Fg0 σ' q := by
  obtain ⟨p, s, po, pt, pl, F, a0, a1, a2, a3, a4, a5, a6, a7⟩ := h
  have k : ∀ j : Nat, q ≤ j → j < q + 8 → σ' j = σ j := fun j g1 g2 => hF j (out_n h1 g1 g2)
  exact ⟨p, s, po, pt, pl, F, (k _ (by omega) (by omega)).trans a0, (k _ (by omega) (by omega)).trans a1, (k _ (by omega) (by omega)).trans a2, (k _ (by omega) (by omega)).trans a3, (k _ (by omega) (by omega)).trans a4, (k _ (by omega) (by omega)).trans a5, (k _ (by omega) (by omega)).trans a6, (k _ (by omega) (by omega)).trans a7⟩
theorem CFg.fr {v : MsV} {F : FgV} {f : Int → Int} (h : CFg σ v F f) (hF : Fr σ σ' L) (h1 : out L 47 8 = true) (h2 : out L 66 2 = true) : CFg σ' v F f := ⟨h.1.fr hF h1, h.2.1.fr hF (out_n h2 (by omega) (by omega)) (out_n h2 (by omega) (by omega)), h.2.2⟩
end
/-- what lies behind the object stays -/
def FrC (σ σ' : PH) : Prop := ∀ j : Nat, 84 ≤ j → σ' j = σ j
theorem FrC.rf {σ : PH} : FrC σ σ := fun _ _ => rfl
theorem FrC.trans {σ σ' σ'' : PH} (h1 : FrC σ σ') (h2 : FrC σ' σ'') : FrC σ σ'' := fun j hj => (h2 j hj).trans (h1 j hj)

theorem Fr.toC {σ σ' : PH} {L : List Nat} (h : Fr σ σ' L) (hL : (L.all fun j => decide (j < 84)) = true) : FrC σ σ' := by
  intro j hj
  refine h j fun hm => ?_
  have := of_decide_eq_true (List.all_eq_true.mp hL j hm)
  omega
end
section
theorem tbl_len (v : MsV) (F : FgV) (h : GMs v) : (tbl v F).length ≤ 80 := by
  unfold tbl shA
  have h1 := h.1
  have h2 := shL_len F.2.2.2.2.2.2 v.2.1 v.1.toNat (by omega)
  have h3 := digs_len (plc v.1 (plp v))
  simp only [List.length_append, List.length_singleton]
  omega
def rfR (p a b c : Int) : Int := if ¬ (0 ≤ a ∧ a < p) then -100001 else if (b = 0 ∨ b = 1) ∧ -40 ≤ c ∧ c ≤ 40 then 0 else -100002
/-- AxisTable.refusalOfRun -/
theorem ct_refRun {x : CM} {d N : Nat} {σ : PH} {Q : PQ} {S : CSt} (hS : CS σ S) (hd : 1 ≤ d) {a b c : Int} (ha : inR a) (hb : inR b) (hc : inR c) (h : Q (some (vI (rfR S.now.1.1 a b c))) σ) : Call x d 0 0 mX6_refusalOfRun [vR 0, vI a, vI b, vI c] N σ Q := by
  refine Call.of mcX6_refusalOfRun (Nat.le_of_ble_eq_true rfl) (fun y hy => ?_)
  subst hy
  obtain ⟨hG, hX, hTx, hRd, hNow, hPa, hKe, ⟨F, sf, hFg⟩, ⟨sv, hSu⟩, hSF, hLa⟩ := id hS
  have x0 := hX.1
  have x1 := hTx.1
  have x2 := hTx.2
  have x7 := hNow.1
  have x8 := hNow.2.1
  have hGm := hG.2.1.1
  have hp := hGm.1
  have hs := hGm.2.1
  obtain ⟨f0, f1, f2, f3, f4, f5, f6, f7, fR⟩ := id hFg.1
  have tB := fR.tb hGm
  have hL9 := mul_bd (k := S.now.1.1 - 1) (s := S.now.1.2.1) (by omega) (by omega) (by omega) (by omega)
  unfold rfR at h
  refine P.aload_n (dq dtX6_refusalOfRun 0 rfl) rfl ?_
  refine P.get flX6_28 (dq dtX6_refusalOfRun 1 rfl) (by repeat (first | assumption | exact up_s | rw [up_n (by first | assumption | (apply Ne.symm; assumption) | decide | omega)])) (by rfl) ?_
  refine P.get flX6_90 (dq dtX6_refusalOfRun 2 rfl) (by repeat (first | assumption | exact up_s | rw [up_n (by first | assumption | (apply Ne.symm; assumption) | decide | omega)])) (by rfl) ?_
  refine P.iload_n (dq dtX6_refusalOfRun 3 rfl) rfl ?_
  refine P.callV1 (M' := mX2_hasPoint) (d' := d - 1) mlX6_126 mcX2_hasPoint mvX2_hasPoint (dq dtX6_refusalOfRun 4 rfl) (by omega) (Nat.le_of_ble_eq_true rfl) (by repeat (first | assumption | exact up_s | rw [up_n (by first | assumption | (apply Ne.symm; assumption) | decide | omega)])) rfl ?_
  refine ct_X2_hasPoint x8 (by omega) ha (fun n_8 => ?_) (fun n_8 => ?_)
  · refine P.if_ne (t := 17) (dq dtX6_refusalOfRun 5 rfl) rfl (by omega) (fun _ => ?_) (fun h9 => absurd h9 (by decide))
    refine P.iload_n (dq dtX6_refusalOfRun 8 rfl) rfl ?_
    refine P.callS1 (M' := mX6_isWay) (d' := d - 1) mlX6_130 mcX6_isWay msX6_isWay (dq dtX6_refusalOfRun 9 rfl) (by omega) (Nat.le_of_ble_eq_true rfl) ?_
    refine ct_X6_isWay hb (fun n_18 => ?_) (fun n_18 => ?_)
    · refine P.if_eq (t := 40) (dq dtX6_refusalOfRun 10 rfl) rfl (by omega) (fun h9 => absurd h9 (by decide)) (fun _ => ?_)
      refine P.iload_n (dq dtX6_refusalOfRun 11 rfl) rfl ?_
      refine P.bipush (dq dtX6_refusalOfRun 12 rfl) rfl ?_
      refine P.icmp_lt (t := 40) (dq dtX6_refusalOfRun 13 rfl) rfl (by omega) (by omega) (fun c_27 => ?_) (fun c_27 => ?_)
      · refine P.ldc (n := -100002) (dq dtX6_refusalOfRun 19 rfl) kcX6_77 rfl ?_
        refine P.iret (dq dtX6_refusalOfRun 20 rfl) rfl rfl rfl ?_
        first | (rw [if_neg (by omega), if_pos (by omega)] at h; exact h) | (rw [if_neg (by omega), if_neg (by omega)] at h; exact h)
      · refine P.iload_n (dq dtX6_refusalOfRun 14 rfl) rfl ?_
        refine P.bipush (dq dtX6_refusalOfRun 15 rfl) rfl ?_
        refine P.icmp_gt (t := 40) (dq dtX6_refusalOfRun 16 rfl) rfl (by omega) (by omega) (fun c_33 => ?_) (fun c_33 => ?_)
        · refine P.ldc (n := -100002) (dq dtX6_refusalOfRun 19 rfl) kcX6_77 rfl ?_
          refine P.iret (dq dtX6_refusalOfRun 20 rfl) rfl rfl rfl ?_
          first | (rw [if_neg (by omega), if_pos (by omega)] at h; exact h) | (rw [if_neg (by omega), if_neg (by omega)] at h; exact h)
        · refine P.iconst (dq dtX6_refusalOfRun 17 rfl) ?_
          refine P.goto (t := 42) (dq dtX6_refusalOfRun 18 rfl) rfl ?_
          refine P.iret (dq dtX6_refusalOfRun 20 rfl) rfl rfl rfl ?_
          first | (rw [if_neg (by omega), if_pos (by omega)] at h; exact h) | (rw [if_neg (by omega), if_neg (by omega)] at h; exact h)
    · refine P.if_eq (t := 40) (dq dtX6_refusalOfRun 10 rfl) rfl (by omega) (fun _ => ?_) (fun h9 => absurd h9 (by decide))
      refine P.ldc (n := -100002) (dq dtX6_refusalOfRun 19 rfl) kcX6_77 rfl ?_
      refine P.iret (dq dtX6_refusalOfRun 20 rfl) rfl rfl rfl ?_
      first | (rw [if_neg (by omega), if_pos (by omega)] at h; exact h) | (rw [if_neg (by omega), if_neg (by omega)] at h; exact h)
  · refine P.if_ne (t := 17) (dq dtX6_refusalOfRun 5 rfl) rfl (by omega) (fun h9 => absurd h9 (by decide)) (fun _ => ?_)
    refine P.ldc (n := -100001) (dq dtX6_refusalOfRun 6 rfl) kcX6_129 rfl ?_
    refine P.iret (dq dtX6_refusalOfRun 7 rfl) rfl rfl rfl ?_
    rw [if_pos n_8] at h
    exact h
def rfL (it : Int → Int) (a : Int) : Int := if ¬ (0 ≤ a ∧ a < 3) then -100001 else if it a = 0 then -100011 else 0
/-- AxisTable.refusalOfLabel -/
theorem ct_refLab {x : CM} {d N : Nat} {σ : PH} {Q : PQ} {S : CSt} (hS : CS σ S) (hd : 1 ≤ d) {a : Int} (ha : inR a) (h : Q (some (vI (rfL S.it a))) σ) : Call x d 0 0 mX6_refusalOfLabel [vR 0, vI a] N σ Q := by
  refine Call.of mcX6_refusalOfLabel (Nat.le_of_ble_eq_true rfl) (fun y hy => ?_)
  subst hy
  obtain ⟨hG, hX, hTx, hRd, hNow, hPa, hKe, ⟨F, sf, hFg⟩, ⟨sv, hSu⟩, hSF, hLa⟩ := id hS
  have x0 := hX.1
  have x1 := hTx.1
  have x2 := hTx.2
  have x7 := hNow.1
  have x8 := hNow.2.1
  have hGm := hG.2.1.1
  have hp := hGm.1
  have hs := hGm.2.1
  obtain ⟨f0, f1, f2, f3, f4, f5, f6, f7, fR⟩ := id hFg.1
  have tB := fR.tb hGm
  have hL9 := mul_bd (k := S.now.1.1 - 1) (s := S.now.1.2.1) (by omega) (by omega) (by omega) (by omega)
  have x69 := hLa.1
  unfold rfL at h
  refine P.iload_n (dq dtX6_refusalOfLabel 0 rfl) rfl ?_
  refine P.callS1 (M' := mX6_isLabel) (d' := d - 1) mlX6_236 mcX6_isLabel msX6_isLabel (dq dtX6_refusalOfLabel 1 rfl) (by omega) (Nat.le_of_ble_eq_true rfl) ?_
  refine ct_X6_isLabel ha (fun n_1 => ?_) (fun n_1 => ?_)
  · refine P.if_ne (t := 10) (dq dtX6_refusalOfLabel 2 rfl) rfl (by omega) (fun _ => ?_) (fun h9 => absurd h9 (by decide))
    refine P.aload_n (dq dtX6_refusalOfLabel 5 rfl) rfl ?_
    refine P.get flX6_71 (dq dtX6_refusalOfLabel 6 rfl) (by repeat (first | assumption | exact up_s | rw [up_n (by first | assumption | (apply Ne.symm; assumption) | decide | omega)])) (by rfl) ?_
    refine P.iload_n (dq dtX6_refusalOfLabel 7 rfl) rfl ?_
    refine P.zald (dq dtX6_refusalOfLabel 8 rfl) (by repeat (first | assumption | exact up_s | rw [up_n (by first | assumption | (apply Ne.symm; assumption) | decide | omega)])) (by omega) (by omega) (by omega) ?_
    have i_15 := hG.2.2.2.2.1 a n_1.1 n_1.2
    refine P.if_eq (t := 23) (dq dtX6_refusalOfLabel 9 rfl) rfl (by omega) (fun c_16 => ?_) (fun c_16 => ?_)
    · refine P.ldc (n := -100011) (dq dtX6_refusalOfLabel 12 rfl) kcX6_239 rfl ?_
      refine P.iret (dq dtX6_refusalOfLabel 13 rfl) rfl rfl rfl ?_
      first | (rw [if_neg (by omega), if_pos (by omega)] at h; exact h) | (rw [if_neg (by omega), if_neg (by omega)] at h; exact h)
    · refine P.iconst (dq dtX6_refusalOfLabel 10 rfl) ?_
      refine P.goto (t := 25) (dq dtX6_refusalOfLabel 11 rfl) rfl ?_
      refine P.iret (dq dtX6_refusalOfLabel 13 rfl) rfl rfl rfl ?_
      first | (rw [if_neg (by omega), if_pos (by omega)] at h; exact h) | (rw [if_neg (by omega), if_neg (by omega)] at h; exact h)
  · refine P.if_ne (t := 10) (dq dtX6_refusalOfLabel 2 rfl) rfl (by omega) (fun h9 => absurd h9 (by decide)) (fun _ => ?_)
    refine P.ldc (n := -100001) (dq dtX6_refusalOfLabel 3 rfl) kcX6_129 rfl ?_
    refine P.iret (dq dtX6_refusalOfLabel 4 rfl) rfl rfl rfl ?_
    rw [if_pos n_1] at h
    exact h
def rf2 (it : Int → Int) (a b : Int) : Int := if ¬ ((0 ≤ a ∧ a < 3) ∧ 0 ≤ b ∧ b < 3) then -100001 else if it a = 0 ∨ it b = 0 then -100011 else 0
/-- AxisTable.refusalOfTwo -/
theorem ct_ref2 {x : CM} {d N : Nat} {σ : PH} {Q : PQ} {S : CSt} (hS : CS σ S) (hd : 1 ≤ d) {a b : Int} (ha : inR a) (hb : inR b) (h : Q (some (vI (rf2 S.it a b))) σ) : Call x d 0 0 mX6_refusalOfTwo [vR 0, vI a, vI b] N σ Q := by
  refine Call.of mcX6_refusalOfTwo (Nat.le_of_ble_eq_true rfl) (fun y hy => ?_)
  subst hy
  obtain ⟨hG, hX, hTx, hRd, hNow, hPa, hKe, ⟨F, sf, hFg⟩, ⟨sv, hSu⟩, hSF, hLa⟩ := id hS
  have x0 := hX.1
  have x1 := hTx.1
  have x2 := hTx.2
  have x7 := hNow.1
  have x8 := hNow.2.1
  have hGm := hG.2.1.1
  have hp := hGm.1
  have hs := hGm.2.1
  obtain ⟨f0, f1, f2, f3, f4, f5, f6, f7, fR⟩ := id hFg.1
  have tB := fR.tb hGm
  have hL9 := mul_bd (k := S.now.1.1 - 1) (s := S.now.1.2.1) (by omega) (by omega) (by omega) (by omega)
  have x69 := hLa.1
  unfold rf2 at h
  refine P.iload_n (dq dtX6_refusalOfTwo 0 rfl) rfl ?_
  refine P.callS1 (M' := mX6_isLabel) (d' := d - 1) mlX6_236 mcX6_isLabel msX6_isLabel (dq dtX6_refusalOfTwo 1 rfl) (by omega) (Nat.le_of_ble_eq_true rfl) ?_
  refine ct_X6_isLabel ha (fun n_1 => ?_) (fun n_1 => ?_)
  · refine P.if_eq (t := 14) (dq dtX6_refusalOfTwo 2 rfl) rfl (by omega) (fun h9 => absurd h9 (by decide)) (fun _ => ?_)
    refine P.iload_n (dq dtX6_refusalOfTwo 3 rfl) rfl ?_
    refine P.callS1 (M' := mX6_isLabel) (d' := d - 1) mlX6_236 mcX6_isLabel msX6_isLabel (dq dtX6_refusalOfTwo 4 rfl) (by omega) (Nat.le_of_ble_eq_true rfl) ?_
    refine ct_X6_isLabel hb (fun n_8 => ?_) (fun n_8 => ?_)
    · refine P.if_ne (t := 17) (dq dtX6_refusalOfTwo 5 rfl) rfl (by omega) (fun _ => ?_) (fun h9 => absurd h9 (by decide))
      have i_a := hG.2.2.2.2.1 a n_1.1 n_1.2
      have i_b := hG.2.2.2.2.1 b n_8.1 n_8.2
      refine P.aload_n (dq dtX6_refusalOfTwo 8 rfl) rfl ?_
      refine P.get flX6_71 (dq dtX6_refusalOfTwo 9 rfl) (by repeat (first | assumption | exact up_s | rw [up_n (by first | assumption | (apply Ne.symm; assumption) | decide | omega)])) (by rfl) ?_
      refine P.iload_n (dq dtX6_refusalOfTwo 10 rfl) rfl ?_
      refine P.zald (dq dtX6_refusalOfTwo 11 rfl) (by repeat (first | assumption | exact up_s | rw [up_n (by first | assumption | (apply Ne.symm; assumption) | decide | omega)])) (by omega) (by omega) (by omega) ?_
      refine P.if_eq (t := 39) (dq dtX6_refusalOfTwo 12 rfl) rfl (by omega) (fun c_23 => ?_) (fun c_23 => ?_)
      · refine P.ldc (n := -100011) (dq dtX6_refusalOfTwo 20 rfl) kcX6_239 rfl ?_
        refine P.iret (dq dtX6_refusalOfTwo 21 rfl) rfl rfl rfl ?_
        first | (rw [if_neg (by omega), if_pos (by omega)] at h; exact h) | (rw [if_neg (by omega), if_neg (by omega)] at h; exact h)
      · refine P.aload_n (dq dtX6_refusalOfTwo 13 rfl) rfl ?_
        refine P.get flX6_71 (dq dtX6_refusalOfTwo 14 rfl) (by repeat (first | assumption | exact up_s | rw [up_n (by first | assumption | (apply Ne.symm; assumption) | decide | omega)])) (by rfl) ?_
        refine P.iload_n (dq dtX6_refusalOfTwo 15 rfl) rfl ?_
        refine P.zald (dq dtX6_refusalOfTwo 16 rfl) (by repeat (first | assumption | exact up_s | rw [up_n (by first | assumption | (apply Ne.symm; assumption) | decide | omega)])) (by omega) (by omega) (by omega) ?_
        refine P.if_eq (t := 39) (dq dtX6_refusalOfTwo 17 rfl) rfl (by omega) (fun c_32 => ?_) (fun c_32 => ?_)
        · refine P.ldc (n := -100011) (dq dtX6_refusalOfTwo 20 rfl) kcX6_239 rfl ?_
          refine P.iret (dq dtX6_refusalOfTwo 21 rfl) rfl rfl rfl ?_
          first | (rw [if_neg (by omega), if_pos (by omega)] at h; exact h) | (rw [if_neg (by omega), if_neg (by omega)] at h; exact h)
        · refine P.iconst (dq dtX6_refusalOfTwo 18 rfl) ?_
          refine P.goto (t := 41) (dq dtX6_refusalOfTwo 19 rfl) rfl ?_
          refine P.iret (dq dtX6_refusalOfTwo 21 rfl) rfl rfl rfl ?_
          first | (rw [if_neg (by omega), if_pos (by omega)] at h; exact h) | (rw [if_neg (by omega), if_neg (by omega)] at h; exact h)
    · refine P.if_ne (t := 17) (dq dtX6_refusalOfTwo 5 rfl) rfl (by omega) (fun h9 => absurd h9 (by decide)) (fun _ => ?_)
      refine P.ldc (n := -100001) (dq dtX6_refusalOfTwo 6 rfl) kcX6_129 rfl ?_
      refine P.iret (dq dtX6_refusalOfTwo 7 rfl) rfl rfl rfl ?_
      rw [if_pos (by omega)] at h
      exact h
  · refine P.if_eq (t := 14) (dq dtX6_refusalOfTwo 2 rfl) rfl (by omega) (fun _ => ?_) (fun h9 => absurd h9 (by decide))
    refine P.ldc (n := -100001) (dq dtX6_refusalOfTwo 6 rfl) kcX6_129 rfl ?_
    refine P.iret (dq dtX6_refusalOfTwo 7 rfl) rfl rfl rfl ?_
    rw [if_pos (by omega)] at h
    exact h
/-- AxisTable.write -/
theorem cl_write {x : CM} {d N : Nat} {σ : PH} {Q : PQ} {S : CSt} (hS : CS σ S) (hd : 4 ≤ d) {a : Int} (ha : inR a) (h1 : ¬ (0 ≤ a ∧ a ≤ 255) → Q (some (vI (-100002))) σ) (h2 : 0 ≤ a ∧ a ≤ 255 → S.tn = 200 → Q (some (vI (-100004))) σ) (h3 : 0 ≤ a ∧ a ≤ 255 → S.tn < 200 → ∀ σ' : PH, CS σ' ((S.tn + 1, upI S.tf S.tn a), S.2) → FrC σ σ' → Q (some (vI (S.tn + 1))) σ') : Call x d 0 0 mX6_write [vR 0, vI a] N σ Q := by
  refine Call.of mcX6_write (Nat.le_of_ble_eq_true rfl) (fun y hy => ?_)
  subst hy
  obtain ⟨hG, hX, hTx, hRd, hNow, hPa, hKe, ⟨F, sf, hFg⟩, ⟨sv, hSu⟩, hSF, hLa⟩ := id hS
  have x0 := hX.1
  have x1 := hTx.1
  have x2 := hTx.2
  have x7 := hNow.1
  have x8 := hNow.2.1
  have hGm := hG.2.1.1
  have hp := hGm.1
  have hs := hGm.2.1
  obtain ⟨f0, f1, f2, f3, f4, f5, f6, f7, fR⟩ := id hFg.1
  have tB := fR.tb hGm
  have hL9 := mul_bd (k := S.now.1.1 - 1) (s := S.now.1.2.1) (by omega) (by omega) (by omega) (by omega)
  have hT1 := hG.1.1
  refine P.iload_n (dq dtX6_write 0 rfl) rfl ?_
  refine P.if_lt (t := 11) (dq dtX6_write 1 rfl) rfl (by omega) (fun c_1 => ?_) (fun c_1 => ?_)
  · refine P.ldc (n := -100002) (dq dtX6_write 5 rfl) kcX6_77 rfl ?_
    refine P.iret (dq dtX6_write 6 rfl) rfl rfl rfl ?_
    exact h1 (by omega)
  · refine P.iload_n (dq dtX6_write 2 rfl) rfl ?_
    refine P.sipush (dq dtX6_write 3 rfl) rfl ?_
    refine P.icmp_le (t := 14) (dq dtX6_write 4 rfl) rfl (by omega) (by omega) (fun c_8 => ?_) (fun c_8 => ?_)
    · refine P.aload_n (dq dtX6_write 7 rfl) rfl ?_
      refine P.get flX6_14 (dq dtX6_write 8 rfl) (by repeat (first | assumption | exact up_s | rw [up_n (by first | assumption | (apply Ne.symm; assumption) | decide | omega)])) (by rfl) ?_
      refine P.iconst (dq dtX6_write 9 rfl) ?_
      refine P.callV1 (M' := mX1_hasRoomFor) (d' := d - 1) mlX6_78 mcX1_hasRoomFor mvX1_hasRoomFor (dq dtX6_write 10 rfl) (by omega) (Nat.le_of_ble_eq_true rfl) (by repeat (first | assumption | exact up_s | rw [up_n (by first | assumption | (apply Ne.symm; assumption) | decide | omega)])) rfl ?_
      refine ct_X1_hasRoomFor x1 x2 (by omega) (by omega) (fun n_19 => ?_) (fun n_19 => ?_)
      · refine P.if_ne (t := 28) (dq dtX6_write 11 rfl) rfl (by omega) (fun _ => ?_) (fun h9 => absurd h9 (by decide))
        refine P.aload_n (dq dtX6_write 14 rfl) rfl ?_
        refine P.get flX6_14 (dq dtX6_write 15 rfl) (by repeat (first | assumption | exact up_s | rw [up_n (by first | assumption | (apply Ne.symm; assumption) | decide | omega)])) (by rfl) ?_
        refine P.iload_n (dq dtX6_write 16 rfl) rfl ?_
        refine P.callV1 (M' := mX1_put) (d' := d - 1) mlX6_83 mcX1_put mvX1_put (dq dtX6_write 17 rfl) (by omega) (Nat.le_of_ble_eq_true rfl) (by repeat (first | assumption | exact up_s | rw [up_n (by first | assumption | (apply Ne.symm; assumption) | decide | omega)])) rfl ?_
        refine ct_X1_put x1 x2 (by omega) (by omega) (by omega) ?_
        refine P.aload_n (dq dtX6_write 18 rfl) rfl ?_
        refine P.get flX6_14 (dq dtX6_write 19 rfl) (by repeat (first | assumption | exact up_s | rw [up_n (by first | assumption | (apply Ne.symm; assumption) | decide | omega)])) (by rfl) ?_
        refine P.get flX6_86 (dq dtX6_write 20 rfl) (by repeat (first | assumption | exact up_s | rw [up_n (by first | assumption | (apply Ne.symm; assumption) | decide | omega)])) (by rfl) ?_
        refine P.iret (dq dtX6_write 21 rfl) rfl rfl rfl ?_
        have hF : Fr σ (up (up σ (1 + 1) (pcI 0 200 (upI S.tf S.tn a))) 1 (pcO 1 [vR (1 + 1), vI (S.tn + 1)])) [1, 2] := Fr.up (Fr.up Fr.rf (by simp)) (by simp)
        refine h3 (by omega) (by omega) _ ⟨⟨⟨by show 0 ≤ S.tn + 1 ∧ S.tn + 1 ≤ 200; omega, fun i hi => ?_⟩, hG.2⟩, hX.fr hF rfl rfl rfl rfl, ⟨up_s, (up_n (by decide)).trans up_s⟩, hRd.fr hF rfl, hNow.fr4 hF rfl, hPa.fr hF rfl rfl, hKe.fr hF rfl rfl, ⟨F, sf, hFg.fr hF rfl rfl⟩, ⟨sv, hSu.fr3 hF rfl⟩, hSF.fr hF rfl, hLa.fr hF rfl rfl⟩ (hF.toC rfl)
        have hi2 : 0 ≤ i ∧ i < S.tn + 1 := hi
        show 0 ≤ upI S.tf S.tn a i ∧ upI S.tf S.tn a i ≤ 255
        by_cases e : i = S.tn
        · rw [e, upI_s]; omega
        · rw [upI_n e]
          exact hG.1.2 i (by omega)
      · refine P.if_ne (t := 28) (dq dtX6_write 11 rfl) rfl (by omega) (fun h9 => absurd h9 (by decide)) (fun _ => ?_)
        refine P.ldc (n := -100004) (dq dtX6_write 12 rfl) kcX6_82 rfl ?_
        refine P.iret (dq dtX6_write 13 rfl) rfl rfl rfl ?_
        exact h2 (by omega) (by omega)
    · refine P.ldc (n := -100002) (dq dtX6_write 5 rfl) kcX6_77 rfl ?_
      refine P.iret (dq dtX6_write 6 rfl) rfl rfl rfl ?_
      exact h1 (by omega)
/-- AxisTable.erase -/
theorem cl_erase {x : CM} {d N : Nat} {σ : PH} {Q : PQ} {S : CSt} (hS : CS σ S) (h : ∀ σ' : PH, CS σ' ((0, S.tf), S.2) → FrC σ σ' → Q (some (vI S.tn)) σ') : Call x d 0 0 mX6_erase [vR 0] N σ Q := by
  refine Call.of mcX6_erase (Nat.le_of_ble_eq_true rfl) (fun y hy => ?_)
  subst hy
  obtain ⟨hG, hX, hTx, hRd, hNow, hPa, hKe, ⟨F, sf, hFg⟩, ⟨sv, hSu⟩, hSF, hLa⟩ := id hS
  have x0 := hX.1
  have x1 := hTx.1
  have x2 := hTx.2
  have x7 := hNow.1
  have x8 := hNow.2.1
  have hGm := hG.2.1.1
  have hp := hGm.1
  have hs := hGm.2.1
  obtain ⟨f0, f1, f2, f3, f4, f5, f6, f7, fR⟩ := id hFg.1
  have tB := fR.tb hGm
  have hL9 := mul_bd (k := S.now.1.1 - 1) (s := S.now.1.2.1) (by omega) (by omega) (by omega) (by omega)
  refine P.aload_n (dq dtX6_erase 0 rfl) rfl ?_
  refine P.get flX6_14 (dq dtX6_erase 1 rfl) (by repeat (first | assumption | exact up_s | rw [up_n (by first | assumption | (apply Ne.symm; assumption) | decide | omega)])) (by rfl) ?_
  refine P.get flX6_86 (dq dtX6_erase 2 rfl) (by repeat (first | assumption | exact up_s | rw [up_n (by first | assumption | (apply Ne.symm; assumption) | decide | omega)])) (by rfl) ?_
  refine P.istore_n (dq dtX6_erase 3 rfl) (by decide) rfl rfl ?_
  refine P.aload_n (dq dtX6_erase 4 rfl) rfl ?_
  refine P.get flX6_14 (dq dtX6_erase 5 rfl) (by repeat (first | assumption | exact up_s | rw [up_n (by first | assumption | (apply Ne.symm; assumption) | decide | omega)])) (by rfl) ?_
  refine P.iconst (dq dtX6_erase 6 rfl) ?_
  refine P.put flX6_86 rfl (dq dtX6_erase 7 rfl) (by repeat (first | assumption | exact up_s | rw [up_n (by first | assumption | (apply Ne.symm; assumption) | decide | omega)])) (by exact Nat.le_of_ble_eq_true rfl) rfl rfl rfl rfl rfl ?_
  refine P.iload_n (dq dtX6_erase 8 rfl) rfl ?_
  refine P.iret (dq dtX6_erase 9 rfl) rfl rfl rfl ?_
  have hF : Fr σ (up σ 1 (pcO 1 [vR (1 + 1), vI 0])) [1] := Fr.up Fr.rf (by simp)
  exact h _ ⟨⟨⟨by show (0 : Int) ≤ 0 ∧ (0 : Int) ≤ 200; omega, fun i hi => absurd hi (by show ¬ (0 ≤ i ∧ i < 0); omega)⟩, hG.2⟩, hX.fr hF rfl rfl rfl rfl, ⟨up_s, (up_n (by decide)).trans x2⟩, hRd.fr hF rfl, hNow.fr4 hF rfl, hPa.fr hF rfl rfl, hKe.fr hF rfl rfl, ⟨F, sf, hFg.fr hF rfl rfl⟩, ⟨sv, hSu.fr3 hF rfl⟩, hSF.fr hF rfl, hLa.fr hF rfl rfl⟩ (hF.toC rfl)
/-- AxisTable.runAt -/
theorem cl_runAt {x : CM} {d N : Nat} {σ : PH} {Q : PQ} {S : CSt} (hS : CS σ S) (hd : 2 ≤ d) {a b c : Int} (ha : inR a) (hb : inR b) (hc : inR c) (h1 : ¬ (0 ≤ a ∧ a < S.now.1.1) → Q (some (vI (-100001))) σ) (h2 : (0 ≤ a ∧ a < S.now.1.1) → ¬ ((b = 0 ∨ b = 1) ∧ 0 ≤ c) → Q (some (vI (-100002))) σ) (h3 : (0 ≤ a ∧ a < S.now.1.1) → (b = 0 ∨ b = 1) ∧ 0 ≤ c → c < S.now.1.2.2.1 (a * 2 + b) → Q (some (vI (S.now.1.2.2.2 ((a * 2 + b) * 6 + c)))) σ) (h4 : (0 ≤ a ∧ a < S.now.1.1) → (b = 0 ∨ b = 1) ∧ 0 ≤ c → ¬ c < S.now.1.2.2.1 (a * 2 + b) → Q (some (vI (-100000))) σ) : Call x d 0 0 mX6_runAt [vR 0, vI a, vI b, vI c] N σ Q := by
  refine Call.of mcX6_runAt (Nat.le_of_ble_eq_true rfl) (fun y hy => ?_)
  subst hy
  obtain ⟨hG, hX, hTx, hRd, hNow, hPa, hKe, ⟨F, sf, hFg⟩, ⟨sv, hSu⟩, hSF, hLa⟩ := id hS
  have x0 := hX.1
  have x1 := hTx.1
  have x2 := hTx.2
  have x7 := hNow.1
  have x8 := hNow.2.1
  have hGm := hG.2.1.1
  have hp := hGm.1
  have hs := hGm.2.1
  obtain ⟨f0, f1, f2, f3, f4, f5, f6, f7, fR⟩ := id hFg.1
  have tB := fR.tb hGm
  have hL9 := mul_bd (k := S.now.1.1 - 1) (s := S.now.1.2.1) (by omega) (by omega) (by omega) (by omega)
  refine P.aload_n (dq dtX6_runAt 0 rfl) rfl ?_
  refine P.get flX6_28 (dq dtX6_runAt 1 rfl) (by repeat (first | assumption | exact up_s | rw [up_n (by first | assumption | (apply Ne.symm; assumption) | decide | omega)])) (by rfl) ?_
  refine P.get flX6_90 (dq dtX6_runAt 2 rfl) (by repeat (first | assumption | exact up_s | rw [up_n (by first | assumption | (apply Ne.symm; assumption) | decide | omega)])) (by rfl) ?_
  refine P.iload_n (dq dtX6_runAt 3 rfl) rfl ?_
  refine P.callV1 (M' := mX2_hasPoint) (d' := d - 1) mlX6_126 mcX2_hasPoint mvX2_hasPoint (dq dtX6_runAt 4 rfl) (by omega) (Nat.le_of_ble_eq_true rfl) (by repeat (first | assumption | exact up_s | rw [up_n (by first | assumption | (apply Ne.symm; assumption) | decide | omega)])) rfl ?_
  refine ct_X2_hasPoint x8 (by omega) ha (fun n_8 => ?_) (fun n_8 => ?_)
  · refine P.if_ne (t := 17) (dq dtX6_runAt 5 rfl) rfl (by omega) (fun _ => ?_) (fun h9 => absurd h9 (by decide))
    refine P.iload_n (dq dtX6_runAt 8 rfl) rfl ?_
    refine P.callS1 (M' := mX6_isWay) (d' := d - 1) mlX6_130 mcX6_isWay msX6_isWay (dq dtX6_runAt 9 rfl) (by omega) (Nat.le_of_ble_eq_true rfl) ?_
    refine ct_X6_isWay hb (fun n_18 => ?_) (fun n_18 => ?_)
    · refine P.if_eq (t := 28) (dq dtX6_runAt 10 rfl) rfl (by omega) (fun h9 => absurd h9 (by decide)) (fun _ => ?_)
      refine P.iload_n (dq dtX6_runAt 11 rfl) rfl ?_
      refine P.if_ge (t := 31) (dq dtX6_runAt 12 rfl) rfl (by omega) (fun c_25 => ?_) (fun c_25 => ?_)
      · refine P.aload_n (dq dtX6_runAt 15 rfl) rfl ?_
        refine P.get flX6_28 (dq dtX6_runAt 16 rfl) (by repeat (first | assumption | exact up_s | rw [up_n (by first | assumption | (apply Ne.symm; assumption) | decide | omega)])) (by rfl) ?_
        refine P.get flX6_90 (dq dtX6_runAt 17 rfl) (by repeat (first | assumption | exact up_s | rw [up_n (by first | assumption | (apply Ne.symm; assumption) | decide | omega)])) (by rfl) ?_
        refine P.iload_n (dq dtX6_runAt 18 rfl) rfl ?_
        refine P.iload_n (dq dtX6_runAt 19 rfl) rfl ?_
        refine P.iload_n (dq dtX6_runAt 20 rfl) rfl ?_
        refine P.callV3 (M' := mX2_errAt) (d' := d - 1) mlX6_150 mcX2_errAt mvX2_errAt (dq dtX6_runAt 21 rfl) (by omega) (Nat.le_of_ble_eq_true rfl) (by repeat (first | assumption | exact up_s | rw [up_n (by first | assumption | (apply Ne.symm; assumption) | decide | omega)])) rfl ?_
        refine ct_X2_errAt x8 (by omega) (by omega) hNow.2.2.1 hNow.2.2.2 (by omega) (by omega) (by omega) (fun _ => (hGm.2.2 (a * 2 + b) (by omega) (by omega)).1) (fun n_41 => ?_) (fun n_41 => ?_)
        · refine P.iret (dq dtX6_runAt 22 rfl) rfl rfl rfl ?_
          first | exact h3 n_8 (by omega) (by omega) | exact h4 n_8 (by omega) (by omega)
        · refine P.iret (dq dtX6_runAt 22 rfl) rfl rfl rfl ?_
          first | exact h3 n_8 (by omega) (by omega) | exact h4 n_8 (by omega) (by omega)
      · refine P.ldc (n := -100002) (dq dtX6_runAt 13 rfl) kcX6_77 rfl ?_
        refine P.iret (dq dtX6_runAt 14 rfl) rfl rfl rfl ?_
        exact h2 n_8 (by omega)
    · refine P.if_eq (t := 28) (dq dtX6_runAt 10 rfl) rfl (by omega) (fun _ => ?_) (fun h9 => absurd h9 (by decide))
      refine P.ldc (n := -100002) (dq dtX6_runAt 13 rfl) kcX6_77 rfl ?_
      refine P.iret (dq dtX6_runAt 14 rfl) rfl rfl rfl ?_
      exact h2 n_8 (by omega)
  · refine P.if_ne (t := 17) (dq dtX6_runAt 5 rfl) rfl (by omega) (fun h9 => absurd h9 (by decide)) (fun _ => ?_)
    refine P.ldc (n := -100001) (dq dtX6_runAt 6 rfl) kcX6_129 rfl ?_
    refine P.iret (dq dtX6_runAt 7 rfl) rfl rfl rfl ?_
    exact h1 n_8
/-- AxisTable.countOf -/
theorem cl_countOf {x : CM} {d N : Nat} {σ : PH} {Q : PQ} {S : CSt} {F : FgV} {sf : Int → Int} (hS : CS σ S) (hFg : CFg σ S.now.1 F sf) (hd : 3 ≤ d) {a : Int} (ha : inR a) (h1 : ¬ (0 ≤ a ∧ a ≤ (S.now.1.1 - 1) * S.now.1.2.1) → Q (some (vI (-100002))) σ) (h2 : 0 ≤ a ∧ a ≤ (S.now.1.1 - 1) * S.now.1.2.1 → Q (some (vI (cntF F.2.2.2.2.2.2 S.now.1.1 S.now.1.2.1 a))) σ) : Call x d 0 0 mX6_countOf [vR 0, vI a] N σ Q := by
  refine Call.of mcX6_countOf (Nat.le_of_ble_eq_true rfl) (fun y hy => ?_)
  subst hy
  obtain ⟨hG, hX, hTx, hRd, hNow, hPa, hKe, -, ⟨sv, hSu⟩, hSF, hLa⟩ := id hS
  have x0 := hX.1
  have x1 := hTx.1
  have x2 := hTx.2
  have x7 := hNow.1
  have x8 := hNow.2.1
  have hGm := hG.2.1.1
  have hp := hGm.1
  have hs := hGm.2.1
  obtain ⟨f0, f1, f2, f3, f4, f5, f6, f7, fR⟩ := id hFg.1
  have tB := fR.tb hGm
  have hL9 := mul_bd (k := S.now.1.1 - 1) (s := S.now.1.2.1) (by omega) (by omega) (by omega) (by omega)
  refine P.aload_n (dq dtX6_countOf 0 rfl) rfl ?_
  refine P.get flX6_50 (dq dtX6_countOf 1 rfl) (by repeat (first | assumption | exact up_s | rw [up_n (by first | assumption | (apply Ne.symm; assumption) | decide | omega)])) (by rfl) ?_
  refine P.iload_n (dq dtX6_countOf 2 rfl) rfl ?_
  refine P.callV1 (M' := mX0_hasPlace) (d' := d - 1) mlX6_197 mcX0_hasPlace mvX0_hasPlace (dq dtX6_countOf 3 rfl) (by omega) (Nat.le_of_ble_eq_true rfl) (by repeat (first | assumption | exact up_s | rw [up_n (by first | assumption | (apply Ne.symm; assumption) | decide | omega)])) rfl ?_
  refine ct_X0_hasPlace f0 (by omega) (by omega) ha (fun n_5 => ?_) (fun n_5 => ?_)
  · refine P.if_eq (t := 22) (dq dtX6_countOf 4 rfl) rfl (by omega) (fun h9 => absurd h9 (by decide)) (fun _ => ?_)
    refine P.aload_n (dq dtX6_countOf 5 rfl) rfl ?_
    refine P.get flX6_50 (dq dtX6_countOf 6 rfl) (by repeat (first | assumption | exact up_s | rw [up_n (by first | assumption | (apply Ne.symm; assumption) | decide | omega)])) (by rfl) ?_
    refine P.iload_n (dq dtX6_countOf 7 rfl) rfl ?_
    refine P.callV1 (M' := mX0_countAt) (d' := d - 1) mlX6_102 mcX0_countAt mvX0_countAt (dq dtX6_countOf 8 rfl) (by omega) (Nat.le_of_ble_eq_true rfl) (by repeat (first | assumption | exact up_s | rw [up_n (by first | assumption | (apply Ne.symm; assumption) | decide | omega)])) rfl ?_
    refine ct_X0_countAt f0 f7 (by omega) (by omega) tB (by omega) n_5 ?_
    refine P.goto (t := 24) (dq dtX6_countOf 9 rfl) rfl ?_
    refine P.iret (dq dtX6_countOf 11 rfl) rfl rfl rfl ?_
    first | exact h2 n_5 | exact h1 n_5
  · refine P.if_eq (t := 22) (dq dtX6_countOf 4 rfl) rfl (by omega) (fun _ => ?_) (fun h9 => absurd h9 (by decide))
    refine P.ldc (n := -100002) (dq dtX6_countOf 10 rfl) kcX6_77 rfl ?_
    refine P.iret (dq dtX6_countOf 11 rfl) rfl rfl rfl ?_
    first | exact h2 n_5 | exact h1 n_5
/-- AxisTable.placeOf -/
theorem cl_placeOf {x : CM} {d N : Nat} {σ : PH} {Q : PQ} {S : CSt} {F : FgV} {sf : Int → Int} (hS : CS σ S) (hFg : CFg σ S.now.1 F sf) (hd : 3 ≤ d) {a : Int} (ha : inR a) (h1 : ¬ (-200 ≤ a ∧ a ≤ 2000) → Q (some (vI (-100002))) σ) (h2 : -200 ≤ a ∧ a ≤ 2000 → Q (some (vI (if a ≤ F.2.2.2.2.2.2 0 then 0 else plF F.2.2.2.2.2.2 S.now.1.2.1 a (S.now.1.1 - 1).toNat 0))) σ) : Call x d 0 0 mX6_placeOf [vR 0, vI a] N σ Q := by
  refine Call.of mcX6_placeOf (Nat.le_of_ble_eq_true rfl) (fun y hy => ?_)
  subst hy
  obtain ⟨hG, hX, hTx, hRd, hNow, hPa, hKe, -, ⟨sv, hSu⟩, hSF, hLa⟩ := id hS
  have x0 := hX.1
  have x1 := hTx.1
  have x2 := hTx.2
  have x7 := hNow.1
  have x8 := hNow.2.1
  have hGm := hG.2.1.1
  have hp := hGm.1
  have hs := hGm.2.1
  obtain ⟨f0, f1, f2, f3, f4, f5, f6, f7, fR⟩ := id hFg.1
  have tB := fR.tb hGm
  have hL9 := mul_bd (k := S.now.1.1 - 1) (s := S.now.1.2.1) (by omega) (by omega) (by omega) (by omega)
  refine P.iload_n (dq dtX6_placeOf 0 rfl) rfl ?_
  refine P.sipush (dq dtX6_placeOf 1 rfl) rfl ?_
  refine P.icmp_lt (t := 14) (dq dtX6_placeOf 2 rfl) rfl (by omega) (by omega) (fun c_4 => ?_) (fun c_4 => ?_)
  · refine P.ldc (n := -100002) (dq dtX6_placeOf 6 rfl) kcX6_77 rfl ?_
    refine P.iret (dq dtX6_placeOf 7 rfl) rfl rfl rfl ?_
    exact h1 (by omega)
  · refine P.iload_n (dq dtX6_placeOf 3 rfl) rfl ?_
    refine P.sipush (dq dtX6_placeOf 4 rfl) rfl ?_
    refine P.icmp_le (t := 17) (dq dtX6_placeOf 5 rfl) rfl (by omega) (by omega) (fun c_11 => ?_) (fun c_11 => ?_)
    · refine P.aload_n (dq dtX6_placeOf 8 rfl) rfl ?_
      refine P.get flX6_50 (dq dtX6_placeOf 9 rfl) (by repeat (first | assumption | exact up_s | rw [up_n (by first | assumption | (apply Ne.symm; assumption) | decide | omega)])) (by rfl) ?_
      refine P.iload_n (dq dtX6_placeOf 10 rfl) rfl ?_
      refine P.callV1 (M' := mX0_placeAt) (d' := d - 1) mlX6_210 mcX0_placeAt mvX0_placeAt (dq dtX6_placeOf 11 rfl) (by omega) (Nat.le_of_ble_eq_true rfl) (by repeat (first | assumption | exact up_s | rw [up_n (by first | assumption | (apply Ne.symm; assumption) | decide | omega)])) rfl ?_
      refine ct_X0_placeAt f0 f7 (by omega) (by omega) tB (by omega) (by omega) ?_
      refine P.iret (dq dtX6_placeOf 12 rfl) rfl rfl rfl ?_
      exact h2 (by omega)
    · refine P.ldc (n := -100002) (dq dtX6_placeOf 6 rfl) kcX6_77 rfl ?_
      refine P.iret (dq dtX6_placeOf 7 rfl) rfl rfl rfl ?_
      exact h1 (by omega)
/-- AxisTable.sheet -/
theorem cl_sheet {x : CM} {d N : Nat} {σ : PH} {Q : PQ} {S : CSt} {F : FgV} {sf : Int → Int} (hS : CS σ S) (hFg : CFg σ S.now.1 F sf) (hd : 1 ≤ d) {a : Int} (ha : inR a) (h1 : a < 0 → Q (some (vI (-100002))) σ) (h2 : 0 ≤ a → a < (tbl S.now.1 F).length → Q (some (vI ((tbl S.now.1 F).getD a.toNat 0))) σ) (h3 : ((tbl S.now.1 F).length : Int) ≤ a → Q (some (vI (-100000))) σ) : Call x d 0 0 mX6_sheet [vR 0, vI a] N σ Q := by
  refine Call.of mcX6_sheet (Nat.le_of_ble_eq_true rfl) (fun y hy => ?_)
  subst hy
  obtain ⟨hG, hX, hTx, hRd, hNow, hPa, hKe, -, ⟨sv, hSu⟩, hSF, hLa⟩ := id hS
  have x0 := hX.1
  have x1 := hTx.1
  have x2 := hTx.2
  have x7 := hNow.1
  have x8 := hNow.2.1
  have hGm := hG.2.1.1
  have hp := hGm.1
  have hs := hGm.2.1
  obtain ⟨f0, f1, f2, f3, f4, f5, f6, f7, fR⟩ := id hFg.1
  have tB := fR.tb hGm
  have hL9 := mul_bd (k := S.now.1.1 - 1) (s := S.now.1.2.1) (by omega) (by omega) (by omega) (by omega)
  have x66 := hFg.2.1.1
  have x67 := hFg.2.1.2
  have hln : (tbl S.now.1 F).length ≤ 80 := tbl_len _ _ hGm
  refine P.iload_n (dq dtX6_sheet 0 rfl) rfl ?_
  refine P.if_ge (t := 7) (dq dtX6_sheet 1 rfl) rfl (by omega) (fun c_1 => ?_) (fun c_1 => ?_)
  · refine P.iload_n (dq dtX6_sheet 4 rfl) rfl ?_
    refine P.aload_n (dq dtX6_sheet 5 rfl) rfl ?_
    refine P.get flX6_64 (dq dtX6_sheet 6 rfl) (by repeat (first | assumption | exact up_s | rw [up_n (by first | assumption | (apply Ne.symm; assumption) | decide | omega)])) (by rfl) ?_
    refine P.get flX6_86 (dq dtX6_sheet 7 rfl) (by repeat (first | assumption | exact up_s | rw [up_n (by first | assumption | (apply Ne.symm; assumption) | decide | omega)])) (by rfl) ?_
    refine P.icmp_ge (t := 29) (dq dtX6_sheet 8 rfl) rfl (by omega) (by omega) (fun c_15 => ?_) (fun c_15 => ?_)
    · refine P.ldc (n := -100000) (dq dtX6_sheet 14 rfl) kcX6_235 rfl ?_
      refine P.iret (dq dtX6_sheet 15 rfl) rfl rfl rfl ?_
      first | (rw [show a = ((a.toNat : Nat) : Int) by omega, hFg.2.2 a.toNat (by omega)]; exact h2 (by omega) (by omega)) | exact h3 (by omega)
    · refine P.aload_n (dq dtX6_sheet 9 rfl) rfl ?_
      refine P.get flX6_64 (dq dtX6_sheet 10 rfl) (by repeat (first | assumption | exact up_s | rw [up_n (by first | assumption | (apply Ne.symm; assumption) | decide | omega)])) (by rfl) ?_
      refine P.iload_n (dq dtX6_sheet 11 rfl) rfl ?_
      refine P.callV1 (M' := mX1_at) (d' := d - 1) mlX6_232 mcX1_at mvX1_at (dq dtX6_sheet 12 rfl) (by omega) (Nat.le_of_ble_eq_true rfl) (by repeat (first | assumption | exact up_s | rw [up_n (by first | assumption | (apply Ne.symm; assumption) | decide | omega)])) rfl ?_
      refine ct_X1_at x66 x67 (by omega) (by omega) (fun n_23 => ?_) (fun n_23 => absurd (by omega) n_23)
      refine P.goto (t := 31) (dq dtX6_sheet 13 rfl) rfl ?_
      refine P.iret (dq dtX6_sheet 15 rfl) rfl rfl rfl ?_
      first | (rw [show a = ((a.toNat : Nat) : Int) by omega, hFg.2.2 a.toNat (by omega)]; exact h2 (by omega) (by omega)) | exact h3 (by omega)
  · refine P.ldc (n := -100002) (dq dtX6_sheet 2 rfl) kcX6_77 rfl ?_
    refine P.iret (dq dtX6_sheet 3 rfl) rfl rfl rfl ?_
    exact h1 (by omega)
end
section
/-! the states behind the calls; the object but for what is reckoned -/
def upN {α : Type} (f : Nat → α) (k : Nat) (x : α) : Nat → α := fun j => if j = k then x else f j
theorem upN_s {α : Type} {f : Nat → α} {k : Nat} {x : α} : upN f k x k = x := if_pos rfl
theorem upN_n {α : Type} {f : Nat → α} {k j : Nat} {x : α} (h : j ≠ k) : upN f k x j = f j := if_neg h
def sNow (S : CSt) (w : MoV) : CSt := (S.1, w, S.2.2)
def sRem (S : CSt) : CSt := (S.1, S.now, (if S.nxt = 7 then 0 else S.nxt + 1, if 8 ≤ S.ct then 8 else S.ct + 1, upN S.pm S.nxt.toNat S.now), S.2.2.2)
def bkI (n : Int) : Int := if n = 0 then 7 else n - 1
def sUnd (S : CSt) : CSt := (S.1, S.pm (bkI S.nxt).toNat, (bkI S.nxt, S.ct - 1, S.pm), S.2.2.2)
def sNoP (S : CSt) : CSt := (S.1, S.now, (S.nxt, 0, S.pm), S.2.2.2)
def sKep (S : CSt) (k : Int) : CSt := (S.1, S.now, S.2.2.1, (upI S.ik k 1, upN S.km k.toNat S.now), S.2.2.2.2)
def sIk (S : CSt) (f : Int → Int) : CSt := (S.1, S.now, S.2.2.1, (f, S.km), S.2.2.2.2)
def sLab (S : CSt) (it : Int → Int) (ln : Nat → Int) (lf : Nat → Int → Int) : CSt := (S.1, S.now, S.2.2.1, S.2.2.2.1, (it, ln, lf))
def sTx (S : CSt) (n : Int) (f : Int → Int) : CSt := ((n, f), S.2)
def CSn (σ : PH) (S : CSt) : Prop := CG S ∧ CX0 σ ∧ CTx σ S ∧ CRd σ ∧ Mo σ 7 S.now ∧ CPa σ S ∧ CKe σ S ∧ (Fg0 σ 47 ∧ ∃ (n : Int) (f : Int → Int), Ls σ 66 128 n f) ∧ (∃ v : MsV, Ms σ 55 v) ∧ Fg0 σ 58 ∧ CLa σ S
theorem CS.n {σ : PH} {S : CSt} (h : CS σ S) : CSn σ S := by
  obtain ⟨h1, h2, h3, h4, h5, h6, h7, ⟨F, f, h8⟩, h9⟩ := h
  exact ⟨h1, h2, h3, h4, h5, h6, h7, ⟨h8.1.any, _, f, h8.2.1⟩, h9⟩
theorem Fs.fr {σ σ' : PH} {L : List Nat} (h : Fg0 σ 47 ∧ ∃ (n : Int) (f : Int → Int), Ls σ 66 128 n f) (hF : Fr σ σ' L) (h1 : out L 47 8 = true) (h2 : out L 66 2 = true) : Fg0 σ' 47 ∧ ∃ (n : Int) (f : Int → Int), Ls σ' 66 128 n f := by
  obtain ⟨a, n, f, b⟩ := h
  exact ⟨a.fr hF h1, n, f, b.fr hF (out_n h2 (by omega) (by omega)) (out_n h2 (by omega) (by omega))⟩
theorem Fp.fr {σ σ' : PH} {L : List Nat} (h : ∃ v : MsV, Ms σ 55 v) (hF : Fr σ σ' L) (h1 : out L 55 3 = true) : ∃ v : MsV, Ms σ' 55 v := by
  obtain ⟨v, a⟩ := h
  exact ⟨v, a.fr3 hF h1⟩
abbrev LPa : List Nat := [11, 13, 14, 15, 16, 17, 18, 19, 20, 21, 22, 23, 24, 25, 26, 27, 28, 29, 30, 31, 32, 33, 34, 35, 36, 37, 38, 39, 40, 41, 42, 43, 44]
theorem mem_LPa {j : Nat} (h : j = 11 ∨ (13 ≤ j ∧ j ≤ 44)) : j ∈ LPa := by
  have h1 : j < 45 := by omega
  have key : ∀ k : Nat, k < 45 → (k = 11 ∨ (13 ≤ k ∧ k ≤ 44)) → k ∈ LPa := by decide
  exact key j h1 h
section
variable {x : CM} {d N : Nat} {σ : PH} {Q : PQ} {S : CSt}
theorem cn_remember (hS : CSn σ S) (hd : 3 ≤ d) (h : ∀ σ' : PH, CSn σ' (sRem S) → FrC σ σ' → Q none σ') : Call x d 0 0 mX4_remember [vR 11, vR 7] N σ Q := by
  obtain ⟨hG, hX, hTx, hRd, hNow, hPa, hKe, hFs, hSu, hSF, hLa⟩ := id hS
  obtain ⟨g, hg0, hg⟩ := hX.2.1
  obtain ⟨hnx, hct, hpm⟩ := hG.2.2.1
  refine ct_X4_remember (a := 13 + 4 * S.nxt.toNat) (v := S.pm S.nxt.toNat) (w := S.now) hPa.1 hg0 hnx hct (hg S.nxt hnx.1 hnx.2) (hPa.2 _ (by omega)) hNow (by omega) (by omega) hG.2.1.2.2.2 hd (fun σ' k1 k2 k3 => ?_)
  have hF : Fr σ σ' LPa := k3.wide (by
    intro j hj
    simp only [List.mem_cons, List.not_mem_nil, or_false] at hj
    exact mem_LPa (by omega))
  refine h σ' ⟨⟨hG.1, hG.2.1, ⟨?_, ?_, fun i hi => ?_⟩, hG.2.2.2⟩, hX.fr hF rfl rfl rfl rfl, CTx.fr (S := S) hTx hF rfl, hRd.fr hF rfl, hNow.fr4 hF rfl, ⟨k2, fun i hi => ?_⟩, CKe.fr (S := S) hKe hF rfl rfl, Fs.fr hFs hF rfl rfl, Fp.fr hSu hF rfl, hSF.fr hF rfl, CLa.fr (S := S) hLa hF rfl rfl⟩ (hF.toC rfl)
  · show 0 ≤ (if S.nxt = 7 then 0 else S.nxt + 1) ∧ (if S.nxt = 7 then 0 else S.nxt + 1) < 8
    split <;> omega
  · show 0 ≤ (if 8 ≤ S.ct then 8 else S.ct + 1) ∧ (if 8 ≤ S.ct then 8 else S.ct + 1) ≤ 8
    split <;> omega
  · show GMo (upN S.pm S.nxt.toNat S.now i)
    by_cases e : i = S.nxt.toNat
    · rw [e, upN_s]; exact hG.2.1
    · rw [upN_n e]; exact hpm i hi
  · show Mo σ' (13 + 4 * i) (upN S.pm S.nxt.toNat S.now i)
    by_cases e : i = S.nxt.toNat
    · rw [e, upN_s]; exact k1
    · rw [upN_n e]
      exact (hPa.2 i hi).fr k3 (by simp; omega) (by simp; omega) (by simp; omega) (by simp; omega)
theorem cn_recall (hS : CSn σ S) (h0 : S.ct ≠ 0) (hd : 3 ≤ d) (h : ∀ σ' : PH, CSn σ' (sUnd S) → FrC σ σ' → Q none σ') : Call x d 0 0 mX4_recallInto [vR 11, vR 7] N σ Q := by
  obtain ⟨hG, hX, hTx, hRd, hNow, hPa, hKe, hFs, hSu, hSF, hLa⟩ := id hS
  obtain ⟨g, hg0, hg⟩ := hX.2.1
  obtain ⟨hnx, hct, hpm⟩ := hG.2.2.1
  have hb : 0 ≤ bkI S.nxt ∧ bkI S.nxt < 8 := by unfold bkI; split <;> omega
  refine ct_X4_recallInto (a := 7) (q2 := 13 + 4 * (bkI S.nxt).toNat) (v := S.now) (w := S.pm (bkI S.nxt).toNat) hPa.1 hg0 hnx hct (by omega) (hg (bkI S.nxt) hb.1 hb.2) hNow (hPa.2 _ (by omega)) (by omega) (by omega) (by omega) (hpm _ (by omega)).2.2.2 hd (fun σ' k1 k2 k3 => ?_)
  refine h σ' ⟨⟨hG.1, hpm _ (by omega), ⟨hb, by show 0 ≤ S.ct - 1 ∧ S.ct - 1 ≤ 8; omega, hpm⟩, hG.2.2.2⟩, hX.fr k3 rfl rfl rfl rfl, CTx.fr (S := S) hTx k3 rfl, hRd.fr k3 rfl, k1, ⟨k2, fun i hi => (hPa.2 i hi).fr4 k3 (by simp [out]; omega)⟩, CKe.fr (S := S) hKe k3 rfl rfl, Fs.fr hFs k3 rfl rfl, Fp.fr hSu k3 rfl, hSF.fr k3 rfl, CLa.fr (S := S) hLa k3 rfl rfl⟩ (k3.toC rfl)
theorem cn_forgetAll (hS : CSn σ S) (h : ∀ σ' : PH, CSn σ' (sNoP S) → FrC σ σ' → Fr σ σ' [11] → Q none σ') : Call x d 0 0 mX4_forgetAll [vR 11] N σ Q := by
  obtain ⟨hG, hX, hTx, hRd, hNow, hPa, hKe, hFs, hSu, hSF, hLa⟩ := id hS
  refine ct_X4_forgetAll hPa.1 ?_
  have hF : Fr σ (up σ 11 (pcO 4 [vR 12, vI S.nxt, vI 0])) [11] := Fr.up Fr.rf (by simp)
  exact h _ ⟨⟨hG.1, hG.2.1, ⟨hG.2.2.1.1, by show (0 : Int) ≤ 0 ∧ (0 : Int) ≤ 8; omega, hG.2.2.1.2.2⟩, hG.2.2.2⟩, hX.fr hF rfl rfl rfl rfl, CTx.fr (S := S) hTx hF rfl, hRd.fr hF rfl, hNow.fr4 hF rfl, ⟨up_s, fun i hi => (hPa.2 i hi).fr4 hF (by simp [out]; omega)⟩, CKe.fr (S := S) hKe hF rfl rfl, Fs.fr hFs hF rfl rfl, Fp.fr hSu hF rfl, hSF.fr hF rfl, CLa.fr (S := S) hLa hF rfl rfl⟩ (hF.toC rfl) hF
/-- now's measured has changed, nothing else -/
theorem CSn.ms {σ' : PH} {v : MsV} (hS : CSn σ S) (hM : Ms σ' 8 v) (hG : GMs v) (hF : Fr σ σ' [8, 9, 10]) : CSn σ' (sNow S (v, S.now.2)) := by
  obtain ⟨hG0, hX, hTx, hRd, hNow, hPa, hKe, hFs, hSu, hSF, hLa⟩ := hS
  exact ⟨⟨hG0.1, ⟨hG, hG0.2.1.2⟩, hG0.2.2⟩, hX.fr hF rfl rfl rfl rfl, CTx.fr (S := S) hTx hF rfl, hRd.fr hF rfl, ⟨(hF 7 (by decide)).trans hNow.1, hM⟩, CPa.fr (S := S) hPa hF rfl rfl, CKe.fr (S := S) hKe hF rfl rfl, Fs.fr hFs hF rfl rfl, Fp.fr hSu hF rfl, hSF.fr hF rfl, CLa.fr (S := S) hLa hF rfl rfl⟩
/-- now has changed, nothing else -/
theorem CSn.mo {σ' : PH} {w : MoV} (hS : CSn σ S) (hM : Mo σ' 7 w) (hG : GMo w) (hF : Fr σ σ' [7, 8, 9, 10]) : CSn σ' (sNow S w) := by
  obtain ⟨hG0, hX, hTx, hRd, hNow, hPa, hKe, hFs, hSu, hSF, hLa⟩ := hS
  exact ⟨⟨hG0.1, hG, hG0.2.2⟩, hX.fr hF rfl rfl rfl rfl, CTx.fr (S := S) hTx hF rfl, hRd.fr hF rfl, hM, CPa.fr (S := S) hPa hF rfl rfl, CKe.fr (S := S) hKe hF rfl rfl, Fs.fr hFs hF rfl rfl, Fp.fr hSu hF rfl, hSF.fr hF rfl, CLa.fr (S := S) hLa hF rfl rfl⟩
theorem CSn.to {F : FgV} {f : Int → Int} (hS : CSn σ S) (h : CFg σ S.now.1 F f) : CS σ S := by
  obtain ⟨h1, h2, h3, h4, h5, h6, h7, h8, h9⟩ := hS
  exact ⟨h1, h2, h3, h4, h5, h6, h7, ⟨F, f, h⟩, h9⟩
theorem CSn.fig {σ' : PH} {F : FgV} {f : Int → Int} (hS : CSn σ S) (h : CFg σ' S.now.1 F f) (hF : Fr σ σ' [47, 48, 49, 50, 51, 52, 53, 54, 66, 67]) : CS σ' S := by
  obtain ⟨hG, hX, hTx, hRd, hNow, hPa, hKe, hFs, hSu, hSF, hLa⟩ := hS
  exact ⟨hG, hX.fr hF rfl rfl rfl rfl, CTx.fr (S := S) hTx hF rfl, hRd.fr hF rfl, hNow.fr4 hF rfl, CPa.fr (S := S) hPa hF rfl rfl, CKe.fr (S := S) hKe hF rfl rfl, ⟨F, f, h⟩, Fp.fr hSu hF rfl, hSF.fr hF rfl, CLa.fr (S := S) hLa hF rfl rfl⟩
/-- what is only supposed has changed -/
theorem CS.sup {σ' : PH} (hS : CS σ S) (hRd : CRd σ') (hSu : ∃ v : MsV, Ms σ' 55 v) (hSF : Fg0 σ' 58) (hF : Fr σ σ' [3, 4, 5, 6, 55, 56, 57, 58, 59, 60, 61, 62, 63, 64, 65]) : CS σ' S := by
  obtain ⟨hG, hX, hTx, _, hNow, hPa, hKe, ⟨F, f, hFg⟩, _, _, hLa⟩ := hS
  exact ⟨hG, hX.fr hF rfl rfl rfl rfl, CTx.fr (S := S) hTx hF rfl, hRd, hNow.fr4 hF rfl, CPa.fr (S := S) hPa hF rfl rfl, CKe.fr (S := S) hKe hF rfl rfl, ⟨F, f, hFg.fr hF rfl rfl⟩, hSu, hSF, CLa.fr (S := S) hLa hF rfl rfl⟩
end
theorem plc_b {v : MsV} (h : GMs v) : 0 ≤ plc v.1 (plp v) ∧ plc v.1 (plp v) ≤ 81 := by
  have hp := h.1
  have h1 := plT_b (m := mm v) v.1.toNat (fun t g1 g2 => mm_b h g1 (by omega))
  have h2 := near_b (a := plp v) (c := 60 * v.1) (b := 80) (by omega) (by omega) (by unfold plp; omega) (by unfold plp; omega)
  unfold plc
  split <;> omega
end
section
theorem rfR_b (p a b c : Int) : inR (rfR p a b c) := by
  unfold rfR inR
  split
  · omega
  · split <;> omega
theorem rfR_0 {p a b c : Int} (h : rfR p a b c = 0) : (0 ≤ a ∧ a < p) ∧ (b = 0 ∨ b = 1) ∧ -40 ≤ c ∧ c ≤ 40 := by
  unfold rfR at h
  split at h
  · omega
  · split at h
    · next h1 h2 => exact ⟨by omega, h2⟩
    · omega
theorem rfL_b (it : Int → Int) (a : Int) : inR (rfL it a) := by
  unfold rfL inR
  split
  · omega
  · split <;> omega
theorem rfL_0 {it : Int → Int} {a : Int} (h : rfL it a = 0) : (0 ≤ a ∧ a < 3) ∧ it a ≠ 0 := by
  unfold rfL at h
  split at h
  · omega
  · split at h
    · omega
    · next h1 h2 => exact ⟨by omega, h2⟩
theorem rf2_b (it : Int → Int) (a b : Int) : inR (rf2 it a b) := by
  unfold rf2 inR
  split
  · omega
  · split <;> omega
theorem rf2_0 {it : Int → Int} {a b : Int} (h : rf2 it a b = 0) : ((0 ≤ a ∧ a < 3) ∧ it a ≠ 0) ∧ (0 ≤ b ∧ b < 3) ∧ it b ≠ 0 := by
  unfold rf2 at h
  split at h
  · omega
  · split at h
    · omega
    · next h1 h2 => omega
theorem GMs_clr {v : MsV} {t : Int} (h : GMs v) : GMs (v.1, v.2.1, upI v.2.2.1 t 0, v.2.2.2) := by
  refine ⟨h.1, h.2.1, fun u h0 h1 => ?_⟩
  obtain ⟨g1, g2⟩ := h.2.2 u h0 h1
  show (0 ≤ upI v.2.2.1 t 0 u ∧ upI v.2.2.1 t 0 u ≤ 6) ∧ ∀ j : Int, 0 ≤ j ∧ j < upI v.2.2.1 t 0 u → -40 ≤ v.2.2.2 (u * 6 + j) ∧ v.2.2.2 (u * 6 + j) ≤ 40
  by_cases e : u = t
  · rw [e, upI_s]
    exact ⟨by omega, fun j hj => absurd hj (by omega)⟩
  · rw [upI_n e]
    exact ⟨g1, g2⟩
/-- AxisTable.reckonAnew -/
theorem cn_reckon {x : CM} {d N : Nat} {σ : PH} {Q : PQ} {S : CSt} (hS : CSn σ S) (hd : 5 ≤ d) (h : ∀ σ' : PH, CS σ' S → FrC σ σ' → Q none σ') : Call x d 0 0 mX6_reckonAnew [vR 0] N σ Q := by
  refine Call.of mcX6_reckonAnew (Nat.le_of_ble_eq_true rfl) (fun y hy => ?_)
  subst hy
  obtain ⟨hG, hX, hTx, hRd, hNow, hPa, hKe, hFs, hSu, hSF, hLa⟩ := id hS
  have x0 := hX.1
  have x7 := hNow.1
  have hGm := hG.2.1.1
  obtain ⟨_, _, _, _, _, _, x47, _⟩ := id hFs.1
  obtain ⟨_, _, x66, _⟩ := id hFs.2
  refine P.aload_n (dq dtX6_reckonAnew 0 rfl) rfl ?_
  refine P.get flX6_50 (dq dtX6_reckonAnew 1 rfl) (by repeat (first | assumption | exact up_s | rw [up_n (by first | assumption | (apply Ne.symm; assumption) | decide | omega)])) (by rfl) ?_
  refine P.aload_n (dq dtX6_reckonAnew 2 rfl) rfl ?_
  refine P.get flX6_28 (dq dtX6_reckonAnew 3 rfl) (by repeat (first | assumption | exact up_s | rw [up_n (by first | assumption | (apply Ne.symm; assumption) | decide | omega)])) (by rfl) ?_
  refine P.get flX6_90 (dq dtX6_reckonAnew 4 rfl) (by repeat (first | assumption | exact up_s | rw [up_n (by first | assumption | (apply Ne.symm; assumption) | decide | omega)])) (by rfl) ?_
  refine P.callV1 (M' := mX0_reckon) (d' := d - 1) mlX6_194 mcX0_reckon mvX0_reckon (dq dtX6_reckonAnew 5 rfl) (by omega) (Nat.le_of_ble_eq_true rfl) (by repeat (first | assumption | exact up_s | rw [up_n (by first | assumption | (apply Ne.symm; assumption) | decide | omega)])) rfl ?_
  refine ct_X0_reckon hGm hNow.2 hFs.1 (by omega) (by omega) (fun σ1 F hF1 fr1 => ?_)
  have y0 := (fr1 0 (by decide)).trans x0
  have y1 := hF1.1
  obtain ⟨n0, f0, hL0⟩ := hFs.2
  have hL1 := hL0.fr fr1 (by decide) (by decide)
  have hR := hF1.2.2.2.2.2.2.2.2
  refine P.aload_n (dq dtX6_reckonAnew 6 rfl) rfl ?_
  refine P.get flX6_50 (dq dtX6_reckonAnew 7 rfl) (by repeat (first | assumption | exact up_s | rw [up_n (by first | assumption | (apply Ne.symm; assumption) | decide | omega)])) (by rfl) ?_
  refine P.aload_n (dq dtX6_reckonAnew 8 rfl) rfl ?_
  refine P.get flX6_64 (dq dtX6_reckonAnew 9 rfl) (by repeat (first | assumption | exact up_s | rw [up_n (by first | assumption | (apply Ne.symm; assumption) | decide | omega)])) (by rfl) ?_
  refine P.callV1 (M' := mX0_writeOut) (d' := d - 1) mlX6_276 mcX0_writeOut mvX0_writeOut (dq dtX6_reckonAnew 10 rfl) (by omega) (Nat.le_of_ble_eq_true rfl) (by repeat (first | assumption | exact up_s | rw [up_n (by first | assumption | (apply Ne.symm; assumption) | decide | omega)])) rfl ?_
  refine ct_X0_writeOut (q := 47) (lq := 66) hF1.1 hF1.2.2.2.2.2.2.2.1 hGm.1 hGm.2.1 (hR.tb hGm) (by have := plc_b hGm; omega) rfl (by omega) (by omega) hL1 (fun σ2 f2 k1 k2 k3 => ?_)
  refine P.vret (dq dtX6_reckonAnew 11 rfl) rfl rfl rfl ?_
  have hF : Fr σ σ2 [47, 48, 49, 50, 51, 52, 53, 54, 66, 67] := (fr1.wide (by simp)).trans (k3.wide (by simp))
  exact h σ2 (hS.fig ⟨hF1.fr k3 rfl, k1, k2⟩ hF) (hF.toC rfl)
def aRun (S : CSt) (a b c : Int) : Int := if rfR S.now.1.1 a b c = 0 then addC S.now.1.2.2.1 (a * 2 + b) (a * 2 + b) else rfR S.now.1.1 a b c
def sRun (S : CSt) (a b c : Int) : CSt := if rfR S.now.1.1 a b c = 0 then sNow (sRem S) (addM S.now.1 (a * 2 + b) c, S.now.2) else S
/-- AxisTable.run -/
theorem cl_run {x : CM} {d N : Nat} {σ : PH} {Q : PQ} {S : CSt} (hS : CS σ S) (hd : 6 ≤ d) {a b c : Int} (ha : inR a) (hb : inR b) (hc : inR c) (h : ∀ σ' : PH, CS σ' (sRun S a b c) → FrC σ σ' → Q (some (vI (aRun S a b c))) σ') : Call x d 0 0 mX6_run [vR 0, vI a, vI b, vI c] N σ Q := by
  refine Call.of mcX6_run (Nat.le_of_ble_eq_true rfl) (fun y hy => ?_)
  subst hy
  obtain ⟨hG, hX, hTx, hRd, hNow, hPa, hKe, ⟨F, sf, hFg⟩, ⟨sv, hSu⟩, hSF, hLa⟩ := id hS
  have x0 := hX.1
  have x1 := hTx.1
  have x2 := hTx.2
  have x7 := hNow.1
  have x8 := hNow.2.1
  have hGm := hG.2.1.1
  have hp := hGm.1
  have hs := hGm.2.1
  obtain ⟨f0, f1, f2, f3, f4, f5, f6, f7, fR⟩ := id hFg.1
  have tB := fR.tb hGm
  have hL9 := mul_bd (k := S.now.1.1 - 1) (s := S.now.1.2.1) (by omega) (by omega) (by omega) (by omega)
  have x11 := hPa.1
  refine P.aload_n (dq dtX6_run 0 rfl) rfl ?_
  refine P.iload_n (dq dtX6_run 1 rfl) rfl ?_
  refine P.iload_n (dq dtX6_run 2 rfl) rfl ?_
  refine P.iload_n (dq dtX6_run 3 rfl) rfl ?_
  refine P.callV3 (M' := mX6_refusalOfRun) (d' := d - 1) mlX6_115 mcX6_refusalOfRun mvX6_refusalOfRun (dq dtX6_run 4 rfl) (by omega) (Nat.le_of_ble_eq_true rfl) (by repeat (first | assumption | exact up_s | rw [up_n (by first | assumption | (apply Ne.symm; assumption) | decide | omega)])) rfl ?_
  refine ct_refRun hS (by omega) ha hb hc ?_
  refine P.istore (dq dtX6_run 5 rfl) (by decide) rfl rfl ?_
  refine P.iload (dq dtX6_run 6 rfl) rfl ?_
  refine P.if_eq (t := 17) (dq dtX6_run 7 rfl) rfl (rfR_b _ _ _ _) (fun c_11 => ?_) (fun c_11 => ?_)
  · obtain ⟨e1, e2, e3⟩ := rfR_0 c_11
    refine P.aload_n (dq dtX6_run 10 rfl) rfl ?_
    refine P.get flX6_35 (dq dtX6_run 11 rfl) (by repeat (first | assumption | exact up_s | rw [up_n (by first | assumption | (apply Ne.symm; assumption) | decide | omega)])) (by rfl) ?_
    refine P.aload_n (dq dtX6_run 12 rfl) rfl ?_
    refine P.get flX6_28 (dq dtX6_run 13 rfl) (by repeat (first | assumption | exact up_s | rw [up_n (by first | assumption | (apply Ne.symm; assumption) | decide | omega)])) (by rfl) ?_
    refine P.callV1 (M' := mX4_remember) (d' := d - 1) mlX6_119 mcX4_remember mvX4_remember (dq dtX6_run 14 rfl) (by omega) (Nat.le_of_ble_eq_true rfl) (by repeat (first | assumption | exact up_s | rw [up_n (by first | assumption | (apply Ne.symm; assumption) | decide | omega)])) rfl ?_
    refine cn_remember hS.n (by omega) (fun σ1 hS1 fr1 => ?_)
    have y0 := hS1.2.1.1
    have y7 := hS1.2.2.2.2.1.1
    have y11 := hS1.2.2.2.2.2.1.1
    have y8 := hS1.2.2.2.2.1.2.1
    refine P.aload_n (dq dtX6_run 15 rfl) rfl ?_
    refine P.get flX6_28 (dq dtX6_run 16 rfl) (by repeat (first | assumption | exact up_s | rw [up_n (by first | assumption | (apply Ne.symm; assumption) | decide | omega)])) (by rfl) ?_
    refine P.get flX6_90 (dq dtX6_run 17 rfl) (by repeat (first | assumption | exact up_s | rw [up_n (by first | assumption | (apply Ne.symm; assumption) | decide | omega)])) (by rfl) ?_
    refine P.iload_n (dq dtX6_run 18 rfl) rfl ?_
    refine P.iload_n (dq dtX6_run 19 rfl) rfl ?_
    refine P.iload_n (dq dtX6_run 20 rfl) rfl ?_
    refine P.callV3 (M' := mX2_add) (d' := d - 1) mlX6_123 mcX2_add mvX2_add (dq dtX6_run 21 rfl) (by omega) (Nat.le_of_ble_eq_true rfl) (by repeat (first | assumption | exact up_s | rw [up_n (by first | assumption | (apply Ne.symm; assumption) | decide | omega)])) rfl ?_
    refine ct_X2_add (q := 8) (v := S.now.1) hS1.2.2.2.2.1.2 (by omega) (by omega) e1 (by omega) (hGm.2.2 _ (by omega) (by omega)).1 (fun σ2 k1 k2 => ?_)
    have hS2 := hS1.ms k1 (GMs_add hGm (t := a * 2 + b) (z := c) (by omega) e3) k2
    have z0 := hS2.2.1.1
    refine P.istore (dq dtX6_run 22 rfl) (by decide) rfl rfl ?_
    refine P.aload_n (dq dtX6_run 23 rfl) rfl ?_
    refine P.callV0 (M' := mX6_reckonAnew) (d' := d - 1) mlX6_74 mcX6_reckonAnew mvX6_reckonAnew (dq dtX6_run 24 rfl) (by omega) (Nat.le_of_ble_eq_true rfl) (by repeat (first | assumption | exact up_s | rw [up_n (by first | assumption | (apply Ne.symm; assumption) | decide | omega)])) rfl ?_
    refine cn_reckon hS2 (by omega) (fun σ3 hS3 fr3 => ?_)
    refine P.iload (dq dtX6_run 25 rfl) rfl ?_
    refine P.iret (dq dtX6_run 26 rfl) rfl rfl rfl ?_
    simp only [aRun, sRun, if_pos c_11] at h
    exact h σ3 hS3 ((fr1.trans (k2.toC rfl)).trans fr3)
  · refine P.iload (dq dtX6_run 8 rfl) rfl ?_
    refine P.iret (dq dtX6_run 9 rfl) rfl rfl rfl ?_
    simp only [aRun, sRun, if_neg c_11] at h
    exact h σ hS FrC.rf
def aClr (S : CSt) (a b : Int) : Int := if ¬ (0 ≤ a ∧ a < S.now.1.1) then -100001 else if ¬ (b = 0 ∨ b = 1) then -100002 else if S.now.1.2.2.1 (a * 2 + b) = 0 then -100003 else S.now.1.2.2.1 (a * 2 + b)
def sClr (S : CSt) (a b : Int) : CSt := if (0 ≤ a ∧ a < S.now.1.1) ∧ (b = 0 ∨ b = 1) ∧ S.now.1.2.2.1 (a * 2 + b) ≠ 0 then sNow (sRem S) ((S.now.1.1, S.now.1.2.1, upI S.now.1.2.2.1 (a * 2 + b) 0, S.now.1.2.2.2), S.now.2) else S
/-- AxisTable.clear -/
theorem cl_clear {x : CM} {d N : Nat} {σ : PH} {Q : PQ} {S : CSt} (hS : CS σ S) (hd : 6 ≤ d) {a b : Int} (ha : inR a) (hb : inR b) (h : ∀ σ' : PH, CS σ' (sClr S a b) → FrC σ σ' → Q (some (vI (aClr S a b))) σ') : Call x d 0 0 mX6_clear [vR 0, vI a, vI b] N σ Q := by
  refine Call.of mcX6_clear (Nat.le_of_ble_eq_true rfl) (fun y hy => ?_)
  subst hy
  obtain ⟨hG, hX, hTx, hRd, hNow, hPa, hKe, ⟨F, sf, hFg⟩, ⟨sv, hSu⟩, hSF, hLa⟩ := id hS
  have x0 := hX.1
  have x1 := hTx.1
  have x2 := hTx.2
  have x7 := hNow.1
  have x8 := hNow.2.1
  have hGm := hG.2.1.1
  have hp := hGm.1
  have hs := hGm.2.1
  obtain ⟨f0, f1, f2, f3, f4, f5, f6, f7, fR⟩ := id hFg.1
  have tB := fR.tb hGm
  have hL9 := mul_bd (k := S.now.1.1 - 1) (s := S.now.1.2.1) (by omega) (by omega) (by omega) (by omega)
  have x11 := hPa.1
  refine P.aload_n (dq dtX6_clear 0 rfl) rfl ?_
  refine P.get flX6_28 (dq dtX6_clear 1 rfl) (by repeat (first | assumption | exact up_s | rw [up_n (by first | assumption | (apply Ne.symm; assumption) | decide | omega)])) (by rfl) ?_
  refine P.get flX6_90 (dq dtX6_clear 2 rfl) (by repeat (first | assumption | exact up_s | rw [up_n (by first | assumption | (apply Ne.symm; assumption) | decide | omega)])) (by rfl) ?_
  refine P.iload_n (dq dtX6_clear 3 rfl) rfl ?_
  refine P.callV1 (M' := mX2_hasPoint) (d' := d - 1) mlX6_126 mcX2_hasPoint mvX2_hasPoint (dq dtX6_clear 4 rfl) (by omega) (Nat.le_of_ble_eq_true rfl) (by repeat (first | assumption | exact up_s | rw [up_n (by first | assumption | (apply Ne.symm; assumption) | decide | omega)])) rfl ?_
  refine ct_X2_hasPoint x8 (by omega) ha (fun n_8 => ?_) (fun n_8 => ?_)
  · refine P.if_ne (t := 17) (dq dtX6_clear 5 rfl) rfl (by omega) (fun _ => ?_) (fun h9 => absurd h9 (by decide))
    refine P.iload_n (dq dtX6_clear 8 rfl) rfl ?_
    refine P.callS1 (M' := mX6_isWay) (d' := d - 1) mlX6_130 mcX6_isWay msX6_isWay (dq dtX6_clear 9 rfl) (by omega) (Nat.le_of_ble_eq_true rfl) ?_
    refine ct_X6_isWay hb (fun n_18 => ?_) (fun n_18 => ?_)
    · refine P.if_ne (t := 27) (dq dtX6_clear 10 rfl) rfl (by omega) (fun _ => ?_) (fun h9 => absurd h9 (by decide))
      refine P.aload_n (dq dtX6_clear 13 rfl) rfl ?_
      refine P.get flX6_28 (dq dtX6_clear 14 rfl) (by repeat (first | assumption | exact up_s | rw [up_n (by first | assumption | (apply Ne.symm; assumption) | decide | omega)])) (by rfl) ?_
      refine P.get flX6_90 (dq dtX6_clear 15 rfl) (by repeat (first | assumption | exact up_s | rw [up_n (by first | assumption | (apply Ne.symm; assumption) | decide | omega)])) (by rfl) ?_
      refine P.iload_n (dq dtX6_clear 16 rfl) rfl ?_
      refine P.iload_n (dq dtX6_clear 17 rfl) rfl ?_
      refine P.callV2 (M' := mX2_countAt) (d' := d - 1) mlX6_133 mcX2_countAt mvX2_countAt (dq dtX6_clear 18 rfl) (by omega) (Nat.le_of_ble_eq_true rfl) (by repeat (first | assumption | exact up_s | rw [up_n (by first | assumption | (apply Ne.symm; assumption) | decide | omega)])) rfl ?_
      have bc := (hGm.2.2 (a * 2 + b) (by omega) (by omega)).1
      refine ct_X2_countAt x8 (by omega) (by omega) hNow.2.2.1 (by omega) (by omega) (fun _ => ?_) (fun n9 => absurd (by omega) n9)
      refine P.if_ne (t := 45) (dq dtX6_clear 19 rfl) rfl (by omega) (fun c_39 => ?_) (fun c_39 => ?_)
      · refine P.aload_n (dq dtX6_clear 22 rfl) rfl ?_
        refine P.get flX6_35 (dq dtX6_clear 23 rfl) (by repeat (first | assumption | exact up_s | rw [up_n (by first | assumption | (apply Ne.symm; assumption) | decide | omega)])) (by rfl) ?_
        refine P.aload_n (dq dtX6_clear 24 rfl) rfl ?_
        refine P.get flX6_28 (dq dtX6_clear 25 rfl) (by repeat (first | assumption | exact up_s | rw [up_n (by first | assumption | (apply Ne.symm; assumption) | decide | omega)])) (by rfl) ?_
        refine P.callV1 (M' := mX4_remember) (d' := d - 1) mlX6_119 mcX4_remember mvX4_remember (dq dtX6_clear 26 rfl) (by omega) (Nat.le_of_ble_eq_true rfl) (by repeat (first | assumption | exact up_s | rw [up_n (by first | assumption | (apply Ne.symm; assumption) | decide | omega)])) rfl ?_
        refine cn_remember hS.n (by omega) (fun σ1 hS1 fr1 => ?_)
        have y0 := hS1.2.1.1
        have y7 := hS1.2.2.2.2.1.1
        have y11 := hS1.2.2.2.2.2.1.1
        have y8 := hS1.2.2.2.2.1.2.1
        refine P.aload_n (dq dtX6_clear 27 rfl) rfl ?_
        refine P.get flX6_28 (dq dtX6_clear 28 rfl) (by repeat (first | assumption | exact up_s | rw [up_n (by first | assumption | (apply Ne.symm; assumption) | decide | omega)])) (by rfl) ?_
        refine P.get flX6_90 (dq dtX6_clear 29 rfl) (by repeat (first | assumption | exact up_s | rw [up_n (by first | assumption | (apply Ne.symm; assumption) | decide | omega)])) (by rfl) ?_
        refine P.iload_n (dq dtX6_clear 30 rfl) rfl ?_
        refine P.iload_n (dq dtX6_clear 31 rfl) rfl ?_
        refine P.callV2 (M' := mX2_forget) (d' := d - 1) mlX6_136 mcX2_forget mvX2_forget (dq dtX6_clear 32 rfl) (by omega) (Nat.le_of_ble_eq_true rfl) (by repeat (first | assumption | exact up_s | rw [up_n (by first | assumption | (apply Ne.symm; assumption) | decide | omega)])) rfl ?_
        refine ct_X2_forget (q := 8) (v := S.now.1) hS1.2.2.2.2.1.2 (by omega) (by omega) n_8 (by omega) (fun σ2 k1 k2 => ?_)
        have hS2 := hS1.ms k1 (GMs_clr hGm) k2
        have z0 := hS2.2.1.1
        refine P.istore_n (dq dtX6_clear 33 rfl) (by decide) rfl rfl ?_
        refine P.aload_n (dq dtX6_clear 34 rfl) rfl ?_
        refine P.callV0 (M' := mX6_reckonAnew) (d' := d - 1) mlX6_74 mcX6_reckonAnew mvX6_reckonAnew (dq dtX6_clear 35 rfl) (by omega) (Nat.le_of_ble_eq_true rfl) (by repeat (first | assumption | exact up_s | rw [up_n (by first | assumption | (apply Ne.symm; assumption) | decide | omega)])) rfl ?_
        refine cn_reckon hS2 (by omega) (fun σ3 hS3 fr3 => ?_)
        refine P.iload_n (dq dtX6_clear 36 rfl) rfl ?_
        refine P.iret (dq dtX6_clear 37 rfl) rfl rfl rfl ?_
        simp only [aClr, sClr, if_neg (show ¬ ¬ (0 ≤ a ∧ a < S.now.1.1) from fun z => z n_8), if_neg (show ¬ ¬ (b = 0 ∨ b = 1) from fun z => z n_18), if_neg c_39, if_pos (show ((0 ≤ a ∧ a < S.now.1.1) ∧ (b = 0 ∨ b = 1) ∧ S.now.1.2.2.1 (a * 2 + b) ≠ 0) from ⟨n_8, n_18, c_39⟩)] at h
        exact h σ3 hS3 ((fr1.trans (k2.toC rfl)).trans fr3)
      · refine P.ldc (n := -100003) (dq dtX6_clear 20 rfl) kcX6_101 rfl ?_
        refine P.iret (dq dtX6_clear 21 rfl) rfl rfl rfl ?_
        simp only [aClr, sClr, if_neg (show ¬ ¬ (0 ≤ a ∧ a < S.now.1.1) from fun z => z n_8), if_neg (show ¬ ¬ (b = 0 ∨ b = 1) from fun z => z n_18), if_pos c_39, if_neg (show ¬ ((0 ≤ a ∧ a < S.now.1.1) ∧ (b = 0 ∨ b = 1) ∧ S.now.1.2.2.1 (a * 2 + b) ≠ 0) from fun z => z.2.2 c_39)] at h
        exact h σ hS FrC.rf
    · refine P.if_ne (t := 27) (dq dtX6_clear 10 rfl) rfl (by omega) (fun h9 => absurd h9 (by decide)) (fun _ => ?_)
      refine P.ldc (n := -100002) (dq dtX6_clear 11 rfl) kcX6_77 rfl ?_
      refine P.iret (dq dtX6_clear 12 rfl) rfl rfl rfl ?_
      simp only [aClr, sClr, if_neg (show ¬ ¬ (0 ≤ a ∧ a < S.now.1.1) from fun z => z n_8), if_pos n_18, if_neg (show ¬ ((0 ≤ a ∧ a < S.now.1.1) ∧ (b = 0 ∨ b = 1) ∧ S.now.1.2.2.1 (a * 2 + b) ≠ 0) from fun z => n_18 z.2.1)] at h
      exact h σ hS FrC.rf
  · refine P.if_ne (t := 17) (dq dtX6_clear 5 rfl) rfl (by omega) (fun h9 => absurd h9 (by decide)) (fun _ => ?_)
    refine P.ldc (n := -100001) (dq dtX6_clear 6 rfl) kcX6_129 rfl ?_
    refine P.iret (dq dtX6_clear 7 rfl) rfl rfl rfl ?_
    simp only [aClr, sClr, if_pos n_8, if_neg (show ¬ ((0 ≤ a ∧ a < S.now.1.1) ∧ (b = 0 ∨ b = 1) ∧ S.now.1.2.2.1 (a * 2 + b) ≠ 0) from fun z => n_8 z.1)] at h
    exact h σ hS FrC.rf
def aUnd (S : CSt) : Int := if S.ct = 0 then -100003 else S.ct - 1
def sUnd1 (S : CSt) : CSt := if S.ct = 0 then S else sUnd S
/-- AxisTable.undo -/
theorem cl_undo {x : CM} {d N : Nat} {σ : PH} {Q : PQ} {S : CSt} (hS : CS σ S) (hd : 6 ≤ d) (h : ∀ σ' : PH, CS σ' (sUnd1 S) → FrC σ σ' → Q (some (vI (aUnd S))) σ') : Call x d 0 0 mX6_undo [vR 0] N σ Q := by
  refine Call.of mcX6_undo (Nat.le_of_ble_eq_true rfl) (fun y hy => ?_)
  subst hy
  obtain ⟨hG, hX, hTx, hRd, hNow, hPa, hKe, ⟨F, sf, hFg⟩, ⟨sv, hSu⟩, hSF, hLa⟩ := id hS
  have x0 := hX.1
  have x1 := hTx.1
  have x2 := hTx.2
  have x7 := hNow.1
  have x8 := hNow.2.1
  have hGm := hG.2.1.1
  have hp := hGm.1
  have hs := hGm.2.1
  obtain ⟨f0, f1, f2, f3, f4, f5, f6, f7, fR⟩ := id hFg.1
  have tB := fR.tb hGm
  have hL9 := mul_bd (k := S.now.1.1 - 1) (s := S.now.1.2.1) (by omega) (by omega) (by omega) (by omega)
  have x11 := hPa.1
  have hct := hG.2.2.1.2.1
  refine P.aload_n (dq dtX6_undo 0 rfl) rfl ?_
  refine P.get flX6_35 (dq dtX6_undo 1 rfl) (by repeat (first | assumption | exact up_s | rw [up_n (by first | assumption | (apply Ne.symm; assumption) | decide | omega)])) (by rfl) ?_
  refine P.get flX6_139 (dq dtX6_undo 2 rfl) (by repeat (first | assumption | exact up_s | rw [up_n (by first | assumption | (apply Ne.symm; assumption) | decide | omega)])) (by rfl) ?_
  refine P.if_ne (t := 13) (dq dtX6_undo 3 rfl) rfl (by omega) (fun c_7 => ?_) (fun c_7 => ?_)
  · refine P.aload_n (dq dtX6_undo 6 rfl) rfl ?_
    refine P.get flX6_35 (dq dtX6_undo 7 rfl) (by repeat (first | assumption | exact up_s | rw [up_n (by first | assumption | (apply Ne.symm; assumption) | decide | omega)])) (by rfl) ?_
    refine P.aload_n (dq dtX6_undo 8 rfl) rfl ?_
    refine P.get flX6_28 (dq dtX6_undo 9 rfl) (by repeat (first | assumption | exact up_s | rw [up_n (by first | assumption | (apply Ne.symm; assumption) | decide | omega)])) (by rfl) ?_
    refine P.callV1 (M' := mX4_recallInto) (d' := d - 1) mlX6_142 mcX4_recallInto mvX4_recallInto (dq dtX6_undo 10 rfl) (by omega) (Nat.le_of_ble_eq_true rfl) (by repeat (first | assumption | exact up_s | rw [up_n (by first | assumption | (apply Ne.symm; assumption) | decide | omega)])) rfl ?_
    refine cn_recall hS.n c_7 (by omega) (fun σ1 hS1 fr1 => ?_)
    have y0 := hS1.2.1.1
    have y7 := hS1.2.2.2.2.1.1
    have y11 := hS1.2.2.2.2.2.1.1
    refine P.aload_n (dq dtX6_undo 11 rfl) rfl ?_
    refine P.callV0 (M' := mX6_reckonAnew) (d' := d - 1) mlX6_74 mcX6_reckonAnew mvX6_reckonAnew (dq dtX6_undo 12 rfl) (by omega) (Nat.le_of_ble_eq_true rfl) (by repeat (first | assumption | exact up_s | rw [up_n (by first | assumption | (apply Ne.symm; assumption) | decide | omega)])) rfl ?_
    refine cn_reckon hS1 (by omega) (fun σ3 hS3 fr3 => ?_)
    have z0 := hS3.2.1.1
    have z11 := hS3.2.2.2.2.2.1.1
    refine P.aload_n (dq dtX6_undo 13 rfl) rfl ?_
    refine P.get flX6_35 (dq dtX6_undo 14 rfl) (by repeat (first | assumption | exact up_s | rw [up_n (by first | assumption | (apply Ne.symm; assumption) | decide | omega)])) (by rfl) ?_
    refine P.get flX6_139 (dq dtX6_undo 15 rfl) (by repeat (first | assumption | exact up_s | rw [up_n (by first | assumption | (apply Ne.symm; assumption) | decide | omega)])) (by rfl) ?_
    refine P.iret (dq dtX6_undo 16 rfl) rfl rfl rfl ?_
    simp only [aUnd, sUnd1, if_neg c_7] at h
    exact h σ3 hS3 (fr1.trans fr3)
  · refine P.ldc (n := -100003) (dq dtX6_undo 4 rfl) kcX6_101 rfl ?_
    refine P.iret (dq dtX6_undo 5 rfl) rfl rfl rfl ?_
    simp only [aUnd, sUnd1, if_pos c_7] at h
    exact h σ hS FrC.rf
def aKep (S : CSt) (k : Int) : Int := if 0 ≤ k ∧ k < 2 then S.now.2.1 else -100001
def sKep1 (S : CSt) (k : Int) : CSt := if 0 ≤ k ∧ k < 2 then sKep S k else S
/-- AxisTable.keep -/
theorem cl_keep {x : CM} {d N : Nat} {σ : PH} {Q : PQ} {S : CSt} (hS : CS σ S) (hd : 4 ≤ d) {k : Int} (hk : inR k) (h : ∀ σ' : PH, CS σ' (sKep1 S k) → FrC σ σ' → Q (some (vI (aKep S k))) σ') : Call x d 0 0 mX6_keep [vR 0, vI k] N σ Q := by
  refine Call.of mcX6_keep (Nat.le_of_ble_eq_true rfl) (fun y hy => ?_)
  subst hy
  obtain ⟨hG, hX, hTx, hRd, hNow, hPa, hKe, ⟨F, sf, hFg⟩, ⟨sv, hSu⟩, hSF, hLa⟩ := id hS
  have x0 := hX.1
  have x1 := hTx.1
  have x2 := hTx.2
  have x7 := hNow.1
  have x8 := hNow.2.1
  have hGm := hG.2.1.1
  have hp := hGm.1
  have hs := hGm.2.1
  obtain ⟨f0, f1, f2, f3, f4, f5, f6, f7, fR⟩ := id hFg.1
  have tB := fR.tb hGm
  have hL9 := mul_bd (k := S.now.1.1 - 1) (s := S.now.1.2.1) (by omega) (by omega) (by omega) (by omega)
  have x11 := hPa.1
  refine P.iload_n (dq dtX6_keep 0 rfl) rfl ?_
  refine P.if_lt (t := 9) (dq dtX6_keep 1 rfl) rfl (by omega) (fun c_1 => ?_) (fun c_1 => ?_)
  · refine P.ldc (n := -100001) (dq dtX6_keep 5 rfl) kcX6_129 rfl ?_
    refine P.iret (dq dtX6_keep 6 rfl) rfl rfl rfl ?_
    simp only [aKep, sKep1, if_neg (show ¬ (0 ≤ k ∧ k < 2) by omega)] at h
    exact h σ hS FrC.rf
  · refine P.iload_n (dq dtX6_keep 2 rfl) rfl ?_
    refine P.iconst (dq dtX6_keep 3 rfl) ?_
    refine P.icmp_lt (t := 12) (dq dtX6_keep 4 rfl) rfl (by omega) (by omega) (fun c_6 => ?_) (fun c_6 => ?_)
    · obtain ⟨g, hg0, hg⟩ := hX.2.2.1
      have hgk := hg k (by omega) (by omega)
      have hKk := hKe.2 k.toNat (by omega)
      have xk := hKk.1
      have x46 := hKe.1
      refine P.aload_n (dq dtX6_keep 7 rfl) rfl ?_
      refine P.get flX6_39 (dq dtX6_keep 8 rfl) (by repeat (first | assumption | exact up_s | rw [up_n (by first | assumption | (apply Ne.symm; assumption) | decide | omega)])) (by rfl) ?_
      refine P.iload_n (dq dtX6_keep 9 rfl) rfl ?_
      refine P.aald (dq dtX6_keep 10 rfl) (by repeat (first | assumption | exact up_s | rw [up_n (by first | assumption | (apply Ne.symm; assumption) | decide | omega)])) (by decide) (by omega) (by omega) (by omega) hgk ?_
      refine P.aload_n (dq dtX6_keep 11 rfl) rfl ?_
      refine P.get flX6_28 (dq dtX6_keep 12 rfl) (by repeat (first | assumption | exact up_s | rw [up_n (by first | assumption | (apply Ne.symm; assumption) | decide | omega)])) (by rfl) ?_
      refine P.callV1 (M' := mX3_copyFrom) (d' := d - 1) mlX6_145 mcX3_copyFrom mvX3_copyFrom (dq dtX6_keep 13 rfl) (by omega) (Nat.le_of_ble_eq_true rfl) (by repeat (first | assumption | exact up_s | rw [up_n (by first | assumption | (apply Ne.symm; assumption) | decide | omega)])) rfl ?_
      refine ct_X3_copyFrom hKk hNow (by omega) hG.2.1.2.2.2 (by omega) (fun σ1 k1 k2 => ?_)
      have y0 := (k2 0 (by simp; omega)).trans x0
      have y46 := (k2 46 (by simp; omega)).trans x46
      have y7 := (k2 7 (by simp; omega)).trans x7
      refine P.aload_n (dq dtX6_keep 14 rfl) rfl ?_
      refine P.get flX6_43 (dq dtX6_keep 15 rfl) (by repeat (first | assumption | exact up_s | rw [up_n (by first | assumption | (apply Ne.symm; assumption) | decide | omega)])) (by rfl) ?_
      refine P.iload_n (dq dtX6_keep 16 rfl) rfl ?_
      refine P.iconst (dq dtX6_keep 17 rfl) ?_
      refine P.zast (dq dtX6_keep 18 rfl) (by repeat (first | assumption | exact up_s | rw [up_n (by first | assumption | (apply Ne.symm; assumption) | decide | omega)])) (by omega) (by omega) (by omega) (by omega) ?_
      refine P.aload_n (dq dtX6_keep 19 rfl) rfl ?_
      refine P.get flX6_28 (dq dtX6_keep 20 rfl) (by repeat (first | assumption | exact up_s | rw [up_n (by first | assumption | (apply Ne.symm; assumption) | decide | omega)])) (by rfl) ?_
      refine P.get flX6_147 (dq dtX6_keep 21 rfl) (by repeat (first | assumption | exact up_s | rw [up_n (by first | assumption | (apply Ne.symm; assumption) | decide | omega)])) (by rfl) ?_
      refine P.iret (dq dtX6_keep 22 rfl) rfl rfl rfl ?_
      simp only [aKep, sKep1, if_pos (show (0 ≤ k ∧ k < 2) by omega)] at h
      have hF : Fr σ (up σ1 46 (pcI 1 2 (upI S.ik k 1))) [46, 70, 71, 72, 73, 74, 75, 76, 77] := Fr.up (k2.wide (by
        intro j hj
        simp only [List.mem_cons, List.not_mem_nil, or_false] at hj
        have key : ∀ i : Nat, i < 78 → 70 ≤ i → i ∈ [46, 70, 71, 72, 73, 74, 75, 76, 77] := by decide
        exact key j (by omega) (by omega))) (by simp)
      refine h _ ⟨⟨hG.1, hG.2.1, hG.2.2.1, ⟨fun i g1 g2 => ?_, fun i hi => ?_⟩, hG.2.2.2.2⟩, hX.fr hF rfl rfl rfl rfl, CTx.fr (S := S) hTx hF rfl, hRd.fr hF rfl, hNow.fr4 hF rfl, CPa.fr (S := S) hPa hF rfl rfl, ⟨up_s, fun i hi => ?_⟩, ⟨F, sf, hFg.fr hF rfl rfl⟩, ⟨sv, hSu.fr3 hF rfl⟩, hSF.fr hF rfl, CLa.fr (S := S) hLa hF rfl rfl⟩ (hF.toC rfl)
      · show upI S.ik k 1 i = 0 ∨ upI S.ik k 1 i = 1
        by_cases e : i = k
        · rw [e, upI_s]; exact Or.inr rfl
        · rw [upI_n e]; exact hG.2.2.2.1.1 i g1 g2
      · show GMo (upN S.km k.toNat S.now i)
        by_cases e : i = k.toNat
        · rw [e, upN_s]; exact hG.2.1
        · rw [upN_n e]; exact hG.2.2.2.1.2 i hi
      · show Mo _ (70 + 4 * i) (upN S.km k.toNat S.now i)
        by_cases e : i = k.toNat
        · rw [e, upN_s]
          exact k1.fr (S := [46]) (Fr.up Fr.rf (by simp)) (by simp; omega) (by simp; omega) (by simp; omega) (by simp; omega)
        · rw [upN_n e]
          exact ((hKe.2 i hi).fr k2 (by simp; omega) (by simp; omega) (by simp; omega) (by simp; omega)).fr (S := [46]) (Fr.up Fr.rf (by simp)) (by simp; omega) (by simp; omega) (by simp; omega) (by simp; omega)
    · refine P.ldc (n := -100001) (dq dtX6_keep 5 rfl) kcX6_129 rfl ?_
      refine P.iret (dq dtX6_keep 6 rfl) rfl rfl rfl ?_
      simp only [aKep, sKep1, if_neg (show ¬ (0 ≤ k ∧ k < 2) by omega)] at h
      exact h σ hS FrC.rf
def aBck (S : CSt) (k : Int) : Int := if ¬ (0 ≤ k ∧ k < 2) then -100001 else if S.ik k = 0 then -100003 else (S.km k.toNat).2.1
def sBck (S : CSt) (k : Int) : CSt := if (0 ≤ k ∧ k < 2) ∧ S.ik k ≠ 0 then sNoP (sNow S (S.km k.toNat)) else S
/-- AxisTable.back -/
theorem cl_back {x : CM} {d N : Nat} {σ : PH} {Q : PQ} {S : CSt} (hS : CS σ S) (hd : 6 ≤ d) {k : Int} (hk : inR k) (h : ∀ σ' : PH, CS σ' (sBck S k) → FrC σ σ' → Q (some (vI (aBck S k))) σ') : Call x d 0 0 mX6_back [vR 0, vI k] N σ Q := by
  refine Call.of mcX6_back (Nat.le_of_ble_eq_true rfl) (fun y hy => ?_)
  subst hy
  obtain ⟨hG, hX, hTx, hRd, hNow, hPa, hKe, ⟨F, sf, hFg⟩, ⟨sv, hSu⟩, hSF, hLa⟩ := id hS
  have x0 := hX.1
  have x1 := hTx.1
  have x2 := hTx.2
  have x7 := hNow.1
  have x8 := hNow.2.1
  have hGm := hG.2.1.1
  have hp := hGm.1
  have hs := hGm.2.1
  obtain ⟨f0, f1, f2, f3, f4, f5, f6, f7, fR⟩ := id hFg.1
  have tB := fR.tb hGm
  have hL9 := mul_bd (k := S.now.1.1 - 1) (s := S.now.1.2.1) (by omega) (by omega) (by omega) (by omega)
  have x11 := hPa.1
  refine P.iload_n (dq dtX6_back 0 rfl) rfl ?_
  refine P.if_lt (t := 9) (dq dtX6_back 1 rfl) rfl (by omega) (fun c_1 => ?_) (fun c_1 => ?_)
  · refine P.ldc (n := -100001) (dq dtX6_back 5 rfl) kcX6_129 rfl ?_
    refine P.iret (dq dtX6_back 6 rfl) rfl rfl rfl ?_
    simp only [aBck, sBck, if_pos (show ¬ (0 ≤ k ∧ k < 2) by omega), if_neg (show ¬ ((0 ≤ k ∧ k < 2) ∧ S.ik k ≠ 0) from fun z => by omega)] at h
    exact h σ hS FrC.rf
  · refine P.iload_n (dq dtX6_back 2 rfl) rfl ?_
    refine P.iconst (dq dtX6_back 3 rfl) ?_
    refine P.icmp_lt (t := 12) (dq dtX6_back 4 rfl) rfl (by omega) (by omega) (fun c_6 => ?_) (fun c_6 => ?_)
    · obtain ⟨g, hg0, hg⟩ := hX.2.2.1
      have hgk := hg k (by omega) (by omega)
      have hKk := hKe.2 k.toNat (by omega)
      have xk := hKk.1
      have x46 := hKe.1
      have bk := hG.2.2.2.1.1 k (by omega) (by omega)
      refine P.aload_n (dq dtX6_back 7 rfl) rfl ?_
      refine P.get flX6_43 (dq dtX6_back 8 rfl) (by repeat (first | assumption | exact up_s | rw [up_n (by first | assumption | (apply Ne.symm; assumption) | decide | omega)])) (by rfl) ?_
      refine P.iload_n (dq dtX6_back 9 rfl) rfl ?_
      refine P.zald (dq dtX6_back 10 rfl) (by repeat (first | assumption | exact up_s | rw [up_n (by first | assumption | (apply Ne.symm; assumption) | decide | omega)])) (by omega) (by omega) (by omega) ?_
      refine P.if_ne (t := 24) (dq dtX6_back 11 rfl) rfl (by omega) (fun c_18 => ?_) (fun c_18 => ?_)
      · refine P.aload_n (dq dtX6_back 14 rfl) rfl ?_
        refine P.get flX6_28 (dq dtX6_back 15 rfl) (by repeat (first | assumption | exact up_s | rw [up_n (by first | assumption | (apply Ne.symm; assumption) | decide | omega)])) (by rfl) ?_
        refine P.aload_n (dq dtX6_back 16 rfl) rfl ?_
        refine P.get flX6_39 (dq dtX6_back 17 rfl) (by repeat (first | assumption | exact up_s | rw [up_n (by first | assumption | (apply Ne.symm; assumption) | decide | omega)])) (by rfl) ?_
        refine P.iload_n (dq dtX6_back 18 rfl) rfl ?_
        refine P.aald (dq dtX6_back 19 rfl) (by repeat (first | assumption | exact up_s | rw [up_n (by first | assumption | (apply Ne.symm; assumption) | decide | omega)])) (by decide) (by omega) (by omega) (by omega) hgk ?_
        refine P.callV1 (M' := mX3_copyFrom) (d' := d - 1) mlX6_145 mcX3_copyFrom mvX3_copyFrom (dq dtX6_back 20 rfl) (by omega) (Nat.le_of_ble_eq_true rfl) (by repeat (first | assumption | exact up_s | rw [up_n (by first | assumption | (apply Ne.symm; assumption) | decide | omega)])) rfl ?_
        refine ct_X3_copyFrom hNow hKk (by omega) (hG.2.2.2.1.2 k.toNat (by omega)).2.2.2 (by omega) (fun σ1 k1 k2 => ?_)
        have hS1 := hS.n.mo k1 (hG.2.2.2.1.2 k.toNat (by omega)) k2
        have y0 := hS1.2.1.1
        have y7 := hS1.2.2.2.2.1.1
        have y11 := hS1.2.2.2.2.2.1.1
        refine P.aload_n (dq dtX6_back 21 rfl) rfl ?_
        refine P.get flX6_35 (dq dtX6_back 22 rfl) (by repeat (first | assumption | exact up_s | rw [up_n (by first | assumption | (apply Ne.symm; assumption) | decide | omega)])) (by rfl) ?_
        refine P.callV0 (M' := mX4_forgetAll) (d' := d - 1) mlX6_109 mcX4_forgetAll mvX4_forgetAll (dq dtX6_back 23 rfl) (by omega) (Nat.le_of_ble_eq_true rfl) (by repeat (first | assumption | exact up_s | rw [up_n (by first | assumption | (apply Ne.symm; assumption) | decide | omega)])) rfl ?_
        refine cn_forgetAll hS1 (fun σ2 hS2 fr2 _ => ?_)
        have z0 := hS2.2.1.1
        refine P.aload_n (dq dtX6_back 24 rfl) rfl ?_
        refine P.callV0 (M' := mX6_reckonAnew) (d' := d - 1) mlX6_74 mcX6_reckonAnew mvX6_reckonAnew (dq dtX6_back 25 rfl) (by omega) (Nat.le_of_ble_eq_true rfl) (by repeat (first | assumption | exact up_s | rw [up_n (by first | assumption | (apply Ne.symm; assumption) | decide | omega)])) rfl ?_
        refine cn_reckon hS2 (by omega) (fun σ3 hS3 fr3 => ?_)
        have w0 := hS3.2.1.1
        have w7 := hS3.2.2.2.2.1.1
        refine P.aload_n (dq dtX6_back 26 rfl) rfl ?_
        refine P.get flX6_28 (dq dtX6_back 27 rfl) (by repeat (first | assumption | exact up_s | rw [up_n (by first | assumption | (apply Ne.symm; assumption) | decide | omega)])) (by rfl) ?_
        refine P.get flX6_147 (dq dtX6_back 28 rfl) (by repeat (first | assumption | exact up_s | rw [up_n (by first | assumption | (apply Ne.symm; assumption) | decide | omega)])) (by rfl) ?_
        refine P.iret (dq dtX6_back 29 rfl) rfl rfl rfl ?_
        simp only [aBck, sBck, if_neg (show ¬ ¬ (0 ≤ k ∧ k < 2) by omega), if_neg c_18, if_pos (show ((0 ≤ k ∧ k < 2) ∧ S.ik k ≠ 0) from ⟨by omega, c_18⟩)] at h
        exact h σ3 hS3 (((k2.toC rfl).trans fr2).trans fr3)
      · refine P.ldc (n := -100003) (dq dtX6_back 12 rfl) kcX6_101 rfl ?_
        refine P.iret (dq dtX6_back 13 rfl) rfl rfl rfl ?_
        simp only [aBck, sBck, if_neg (show ¬ ¬ (0 ≤ k ∧ k < 2) by omega), if_pos c_18, if_neg (show ¬ ((0 ≤ k ∧ k < 2) ∧ S.ik k ≠ 0) from fun z => z.2 c_18)] at h
        exact h σ hS FrC.rf
    · refine P.ldc (n := -100001) (dq dtX6_back 5 rfl) kcX6_129 rfl ?_
      refine P.iret (dq dtX6_back 6 rfl) rfl rfl rfl ?_
      simp only [aBck, sBck, if_pos (show ¬ (0 ≤ k ∧ k < 2) by omega), if_neg (show ¬ ((0 ≤ k ∧ k < 2) ∧ S.ik k ≠ 0) from fun z => by omega)] at h
      exact h σ hS FrC.rf
end
