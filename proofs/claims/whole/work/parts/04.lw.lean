/-- a private method of a class that the tables say can be made, by its rows of tables_1 -/
def lw_okq (q : MethodName × Nat) : Prop := (q.1.cls ≠ "java/lang/invoke/MethodHandle" ∧ q.1.cls ≠ "java/lang/invoke/VarHandle") ∧ Cond.instantiable q.1.cls q.2 ∈ tables_1 ∧ Cond.privateMethod q.1 ∈ tables_1 ∧ Cond.instanceMethod q.1 ∈ tables_1
theorem lw_p0 : lw_okq (⟨"FairHouse", "putFour", "(I)V"⟩, 8) := ⟨⟨by decide +kernel, by decide +kernel⟩, List.mem_of_getElem? (i := 28) (by decide +kernel), List.mem_of_getElem? (i := 427) (by decide +kernel), List.mem_of_getElem? (i := 428) (by decide +kernel)⟩
theorem lw_p1 : lw_okq (⟨"java/lang/Throwable", "fillInStackTrace", "(I)Ljava/lang/Throwable;"⟩, 6) := ⟨⟨by decide +kernel, by decide +kernel⟩, List.mem_of_getElem? (i := 477) (by decide +kernel), List.mem_of_getElem? (i := 475) (by decide +kernel), List.mem_of_getElem? (i := 476) (by decide +kernel)⟩
theorem lw_p2 : lw_okq (⟨"FairHouse$Text", "behindBlanks", "(I)I"⟩, 9) := ⟨⟨by decide +kernel, by decide +kernel⟩, List.mem_of_getElem? (i := 285) (by decide +kernel), List.mem_of_getElem? (i := 517) (by decide +kernel), List.mem_of_getElem? (i := 518) (by decide +kernel)⟩
theorem lw_p3 : lw_okq (⟨"FairHouse$Text", "byteAt", "(I)I"⟩, 9) := ⟨⟨by decide +kernel, by decide +kernel⟩, List.mem_of_getElem? (i := 285) (by decide +kernel), List.mem_of_getElem? (i := 521) (by decide +kernel), List.mem_of_getElem? (i := 522) (by decide +kernel)⟩
theorem lw_p4 : lw_okq (⟨"FairHouse$Text", "behindToken", "(I)I"⟩, 9) := ⟨⟨by decide +kernel, by decide +kernel⟩, List.mem_of_getElem? (i := 285) (by decide +kernel), List.mem_of_getElem? (i := 525) (by decide +kernel), List.mem_of_getElem? (i := 526) (by decide +kernel)⟩
theorem lw_p5 : lw_okq (⟨"FairHouse$Text", "sortOf", "(II)I"⟩, 9) := ⟨⟨by decide +kernel, by decide +kernel⟩, List.mem_of_getElem? (i := 285) (by decide +kernel), List.mem_of_getElem? (i := 535) (by decide +kernel), List.mem_of_getElem? (i := 536) (by decide +kernel)⟩
theorem lw_p6 : lw_okq (⟨"FairHouse$Text", "wordSort", "(II)I"⟩, 9) := ⟨⟨by decide +kernel, by decide +kernel⟩, List.mem_of_getElem? (i := 285) (by decide +kernel), List.mem_of_getElem? (i := 539) (by decide +kernel), List.mem_of_getElem? (i := 540) (by decide +kernel)⟩
theorem lw_p7 : lw_okq (⟨"FairHouse$Text", "indexIn", "(Ljava/lang/String;II)I"⟩, 9) := ⟨⟨by decide +kernel, by decide +kernel⟩, List.mem_of_getElem? (i := 285) (by decide +kernel), List.mem_of_getElem? (i := 544) (by decide +kernel), List.mem_of_getElem? (i := 545) (by decide +kernel)⟩
theorem lw_p8 : lw_okq (⟨"FairHouse$Text", "keep", "(III)V"⟩, 9) := ⟨⟨by decide +kernel, by decide +kernel⟩, List.mem_of_getElem? (i := 285) (by decide +kernel), List.mem_of_getElem? (i := 657) (by decide +kernel), List.mem_of_getElem? (i := 658) (by decide +kernel)⟩
theorem lw_p9 : lw_okq (⟨"FairHouse$FairReader", "power", "()V"⟩, 7) := ⟨⟨by decide +kernel, by decide +kernel⟩, List.mem_of_getElem? (i := 279) (by decide +kernel), List.mem_of_getElem? (i := 677) (by decide +kernel), List.mem_of_getElem? (i := 678) (by decide +kernel)⟩
theorem lw_p10 : lw_okq (⟨"FairHouse$FairReader", "number", "(I)I"⟩, 7) := ⟨⟨by decide +kernel, by decide +kernel⟩, List.mem_of_getElem? (i := 279) (by decide +kernel), List.mem_of_getElem? (i := 689) (by decide +kernel), List.mem_of_getElem? (i := 690) (by decide +kernel)⟩
theorem lw_p11 : lw_okq (⟨"FairHouse$FairReader", "staff", "()V"⟩, 7) := ⟨⟨by decide +kernel, by decide +kernel⟩, List.mem_of_getElem? (i := 279) (by decide +kernel), List.mem_of_getElem? (i := 708) (by decide +kernel), List.mem_of_getElem? (i := 709) (by decide +kernel)⟩
theorem lw_p12 : lw_okq (⟨"FairHouse$Names", "isThere", "(I)Z"⟩, 5) := ⟨⟨by decide +kernel, by decide +kernel⟩, List.mem_of_getElem? (i := 325) (by decide +kernel), List.mem_of_getElem? (i := 721) (by decide +kernel), List.mem_of_getElem? (i := 722) (by decide +kernel)⟩
theorem lw_p13 : lw_okq (⟨"FairHouse$FairReader", "flag", "()V"⟩, 7) := ⟨⟨by decide +kernel, by decide +kernel⟩, List.mem_of_getElem? (i := 279) (by decide +kernel), List.mem_of_getElem? (i := 743) (by decide +kernel), List.mem_of_getElem? (i := 744) (by decide +kernel)⟩
theorem lw_p14 : lw_okq (⟨"FairHouse$FairReader", "ride", "()V"⟩, 7) := ⟨⟨by decide +kernel, by decide +kernel⟩, List.mem_of_getElem? (i := 279) (by decide +kernel), List.mem_of_getElem? (i := 747) (by decide +kernel), List.mem_of_getElem? (i := 748) (by decide +kernel)⟩
theorem lw_p15 : lw_okq (⟨"FairHouse$FairReader", "leader", "(LFairHouse$Ride;)V"⟩, 7) := ⟨⟨by decide +kernel, by decide +kernel⟩, List.mem_of_getElem? (i := 279) (by decide +kernel), List.mem_of_getElem? (i := 777) (by decide +kernel), List.mem_of_getElem? (i := 778) (by decide +kernel)⟩
def lw_privs_1 : List (MethodName × Nat) := [(⟨"FairHouse", "putFour", "(I)V"⟩, 8), (⟨"java/lang/Throwable", "fillInStackTrace", "(I)Ljava/lang/Throwable;"⟩, 6), (⟨"FairHouse$Text", "behindBlanks", "(I)I"⟩, 9), (⟨"FairHouse$Text", "byteAt", "(I)I"⟩, 9), (⟨"FairHouse$Text", "behindToken", "(I)I"⟩, 9), (⟨"FairHouse$Text", "sortOf", "(II)I"⟩, 9), (⟨"FairHouse$Text", "wordSort", "(II)I"⟩, 9), (⟨"FairHouse$Text", "indexIn", "(Ljava/lang/String;II)I"⟩, 9), (⟨"FairHouse$Text", "keep", "(III)V"⟩, 9), (⟨"FairHouse$FairReader", "power", "()V"⟩, 7), (⟨"FairHouse$FairReader", "number", "(I)I"⟩, 7), (⟨"FairHouse$FairReader", "staff", "()V"⟩, 7), (⟨"FairHouse$Names", "isThere", "(I)Z"⟩, 5), (⟨"FairHouse$FairReader", "flag", "()V"⟩, 7), (⟨"FairHouse$FairReader", "ride", "()V"⟩, 7), (⟨"FairHouse$FairReader", "leader", "(LFairHouse$Ride;)V"⟩, 7)]
theorem lw_r1 : ∀ q ∈ lw_privs_1, lw_okq q := List.forall_mem_cons.mpr ⟨lw_p0, List.forall_mem_cons.mpr ⟨lw_p1, List.forall_mem_cons.mpr ⟨lw_p2, List.forall_mem_cons.mpr ⟨lw_p3, List.forall_mem_cons.mpr ⟨lw_p4, List.forall_mem_cons.mpr ⟨lw_p5, List.forall_mem_cons.mpr ⟨lw_p6, List.forall_mem_cons.mpr ⟨lw_p7, List.forall_mem_cons.mpr ⟨lw_p8, List.forall_mem_cons.mpr ⟨lw_p9, List.forall_mem_cons.mpr ⟨lw_p10, List.forall_mem_cons.mpr ⟨lw_p11, List.forall_mem_cons.mpr ⟨lw_p12, List.forall_mem_cons.mpr ⟨lw_p13, List.forall_mem_cons.mpr ⟨lw_p14, List.forall_mem_cons.mpr ⟨lw_p15, fun _ h => absurd h List.not_mem_nil⟩⟩⟩⟩⟩⟩⟩⟩⟩⟩⟩⟩⟩⟩⟩⟩
theorem lw_p16 : lw_okq (⟨"FairHouse$FairReader", "block", "(ILFairHouse$Step;LFairHouse$Step;LFairHouse$Ride;)LFairHouse$Step;"⟩, 7) := ⟨⟨by decide +kernel, by decide +kernel⟩, List.mem_of_getElem? (i := 279) (by decide +kernel), List.mem_of_getElem? (i := 783) (by decide +kernel), List.mem_of_getElem? (i := 784) (by decide +kernel)⟩
theorem lw_p17 : lw_okq (⟨"FairHouse$FairReader", "step", "(ILFairHouse$Step;LFairHouse$Step;LFairHouse$Ride;)LFairHouse$Step;"⟩, 7) := ⟨⟨by decide +kernel, by decide +kernel⟩, List.mem_of_getElem? (i := 279) (by decide +kernel), List.mem_of_getElem? (i := 787) (by decide +kernel), List.mem_of_getElem? (i := 788) (by decide +kernel)⟩
theorem lw_p18 : lw_okq (⟨"FairHouse$FairReader", "rest", "(LFairHouse$Step;ILFairHouse$Ride;)V"⟩, 7) := ⟨⟨by decide +kernel, by decide +kernel⟩, List.mem_of_getElem? (i := 279) (by decide +kernel), List.mem_of_getElem? (i := 853) (by decide +kernel), List.mem_of_getElem? (i := 854) (by decide +kernel)⟩
theorem lw_p19 : lw_okq (⟨"FairHouse$FormulaReader", "sum", "(I)V"⟩, 3) := ⟨⟨by decide +kernel, by decide +kernel⟩, List.mem_of_getElem? (i := 347) (by decide +kernel), List.mem_of_getElem? (i := 865) (by decide +kernel), List.mem_of_getElem? (i := 866) (by decide +kernel)⟩
theorem lw_p20 : lw_okq (⟨"FairHouse$FormulaReader", "term", "(I)V"⟩, 3) := ⟨⟨by decide +kernel, by decide +kernel⟩, List.mem_of_getElem? (i := 347) (by decide +kernel), List.mem_of_getElem? (i := 869) (by decide +kernel), List.mem_of_getElem? (i := 870) (by decide +kernel)⟩
theorem lw_p21 : lw_okq (⟨"FairHouse$FormulaReader", "factor", "(I)V"⟩, 3) := ⟨⟨by decide +kernel, by decide +kernel⟩, List.mem_of_getElem? (i := 347) (by decide +kernel), List.mem_of_getElem? (i := 873) (by decide +kernel), List.mem_of_getElem? (i := 874) (by decide +kernel)⟩
theorem lw_p22 : lw_okq (⟨"FairHouse$FormulaReader", "operand", "(I)V"⟩, 3) := ⟨⟨by decide +kernel, by decide +kernel⟩, List.mem_of_getElem? (i := 347) (by decide +kernel), List.mem_of_getElem? (i := 880) (by decide +kernel), List.mem_of_getElem? (i := 881) (by decide +kernel)⟩
theorem lw_p23 : lw_okq (⟨"FairHouse$FormulaReader", "nots", "()I"⟩, 3) := ⟨⟨by decide +kernel, by decide +kernel⟩, List.mem_of_getElem? (i := 347) (by decide +kernel), List.mem_of_getElem? (i := 902) (by decide +kernel), List.mem_of_getElem? (i := 903) (by decide +kernel)⟩
theorem lw_p24 : lw_okq (⟨"FairHouse", "needFair", "()V"⟩, 8) := ⟨⟨by decide +kernel, by decide +kernel⟩, List.mem_of_getElem? (i := 28) (by decide +kernel), List.mem_of_getElem? (i := 993) (by decide +kernel), List.mem_of_getElem? (i := 994) (by decide +kernel)⟩
theorem lw_p25 : lw_okq (⟨"FairHouse", "rideOf", "(I)LFairHouse$Ride;"⟩, 8) := ⟨⟨by decide +kernel, by decide +kernel⟩, List.mem_of_getElem? (i := 28) (by decide +kernel), List.mem_of_getElem? (i := 1020) (by decide +kernel), List.mem_of_getElem? (i := 1021) (by decide +kernel)⟩
theorem lw_p26 : lw_okq (⟨"FairHouse$Runner", "sendOff", "(LFairHouse$Ride;)V"⟩, 2) := ⟨⟨by decide +kernel, by decide +kernel⟩, List.mem_of_getElem? (i := 385) (by decide +kernel), List.mem_of_getElem? (i := 1052) (by decide +kernel), List.mem_of_getElem? (i := 1053) (by decide +kernel)⟩
theorem lw_p27 : lw_okq (⟨"FairHouse$Queue", "dropFirst", "(I)V"⟩, 5) := ⟨⟨by decide +kernel, by decide +kernel⟩, List.mem_of_getElem? (i := 49) (by decide +kernel), List.mem_of_getElem? (i := 1060) (by decide +kernel), List.mem_of_getElem? (i := 1061) (by decide +kernel)⟩
theorem lw_p28 : lw_okq (⟨"FairHouse$Runner", "run", "(LFairHouse$Ride;)V"⟩, 2) := ⟨⟨by decide +kernel, by decide +kernel⟩, List.mem_of_getElem? (i := 385) (by decide +kernel), List.mem_of_getElem? (i := 1069) (by decide +kernel), List.mem_of_getElem? (i := 1070) (by decide +kernel)⟩
theorem lw_p29 : lw_okq (⟨"FairHouse$Runner", "perform", "(LFairHouse$Ride;LFairHouse$Script;LFairHouse$Step;)I"⟩, 2) := ⟨⟨by decide +kernel, by decide +kernel⟩, List.mem_of_getElem? (i := 385) (by decide +kernel), List.mem_of_getElem? (i := 1073) (by decide +kernel), List.mem_of_getElem? (i := 1074) (by decide +kernel)⟩
theorem lw_p30 : lw_okq (⟨"FairHouse$Runner", "aim", "(LFairHouse$Ride;LFairHouse$Step;)I"⟩, 2) := ⟨⟨by decide +kernel, by decide +kernel⟩, List.mem_of_getElem? (i := 385) (by decide +kernel), List.mem_of_getElem? (i := 1077) (by decide +kernel), List.mem_of_getElem? (i := 1078) (by decide +kernel)⟩
theorem lw_p31 : lw_okq (⟨"FairHouse$Code", "operand", "(IILFairHouse$Ride;)I"⟩, 6) := ⟨⟨by decide +kernel, by decide +kernel⟩, List.mem_of_getElem? (i := 253) (by decide +kernel), List.mem_of_getElem? (i := 1085) (by decide +kernel), List.mem_of_getElem? (i := 1086) (by decide +kernel)⟩
def lw_privs_2 : List (MethodName × Nat) := [(⟨"FairHouse$FairReader", "block", "(ILFairHouse$Step;LFairHouse$Step;LFairHouse$Ride;)LFairHouse$Step;"⟩, 7), (⟨"FairHouse$FairReader", "step", "(ILFairHouse$Step;LFairHouse$Step;LFairHouse$Ride;)LFairHouse$Step;"⟩, 7), (⟨"FairHouse$FairReader", "rest", "(LFairHouse$Step;ILFairHouse$Ride;)V"⟩, 7), (⟨"FairHouse$FormulaReader", "sum", "(I)V"⟩, 3), (⟨"FairHouse$FormulaReader", "term", "(I)V"⟩, 3), (⟨"FairHouse$FormulaReader", "factor", "(I)V"⟩, 3), (⟨"FairHouse$FormulaReader", "operand", "(I)V"⟩, 3), (⟨"FairHouse$FormulaReader", "nots", "()I"⟩, 3), (⟨"FairHouse", "needFair", "()V"⟩, 8), (⟨"FairHouse", "rideOf", "(I)LFairHouse$Ride;"⟩, 8), (⟨"FairHouse$Runner", "sendOff", "(LFairHouse$Ride;)V"⟩, 2), (⟨"FairHouse$Queue", "dropFirst", "(I)V"⟩, 5), (⟨"FairHouse$Runner", "run", "(LFairHouse$Ride;)V"⟩, 2), (⟨"FairHouse$Runner", "perform", "(LFairHouse$Ride;LFairHouse$Script;LFairHouse$Step;)I"⟩, 2), (⟨"FairHouse$Runner", "aim", "(LFairHouse$Ride;LFairHouse$Step;)I"⟩, 2), (⟨"FairHouse$Code", "operand", "(IILFairHouse$Ride;)I"⟩, 6)]
theorem lw_r2 : ∀ q ∈ lw_privs_2, lw_okq q := List.forall_mem_cons.mpr ⟨lw_p16, List.forall_mem_cons.mpr ⟨lw_p17, List.forall_mem_cons.mpr ⟨lw_p18, List.forall_mem_cons.mpr ⟨lw_p19, List.forall_mem_cons.mpr ⟨lw_p20, List.forall_mem_cons.mpr ⟨lw_p21, List.forall_mem_cons.mpr ⟨lw_p22, List.forall_mem_cons.mpr ⟨lw_p23, List.forall_mem_cons.mpr ⟨lw_p24, List.forall_mem_cons.mpr ⟨lw_p25, List.forall_mem_cons.mpr ⟨lw_p26, List.forall_mem_cons.mpr ⟨lw_p27, List.forall_mem_cons.mpr ⟨lw_p28, List.forall_mem_cons.mpr ⟨lw_p29, List.forall_mem_cons.mpr ⟨lw_p30, List.forall_mem_cons.mpr ⟨lw_p31, fun _ h => absurd h List.not_mem_nil⟩⟩⟩⟩⟩⟩⟩⟩⟩⟩⟩⟩⟩⟩⟩⟩
theorem lw_p32 : lw_okq (⟨"FairHouse$Code", "push", "(I)V"⟩, 6) := ⟨⟨by decide +kernel, by decide +kernel⟩, List.mem_of_getElem? (i := 253) (by decide +kernel), List.mem_of_getElem? (i := 1097) (by decide +kernel), List.mem_of_getElem? (i := 1098) (by decide +kernel)⟩
theorem lw_p33 : lw_okq (⟨"FairHouse$Code", "pop", "()I"⟩, 6) := ⟨⟨by decide +kernel, by decide +kernel⟩, List.mem_of_getElem? (i := 253) (by decide +kernel), List.mem_of_getElem? (i := 1101) (by decide +kernel), List.mem_of_getElem? (i := 1102) (by decide +kernel)⟩
theorem lw_p34 : lw_okq (⟨"FairHouse$Code", "joined", "(III)I"⟩, 6) := ⟨⟨by decide +kernel, by decide +kernel⟩, List.mem_of_getElem? (i := 253) (by decide +kernel), List.mem_of_getElem? (i := 1105) (by decide +kernel), List.mem_of_getElem? (i := 1106) (by decide +kernel)⟩
theorem lw_p35 : lw_okq (⟨"FairHouse$Runner", "spend", "(LFairHouse$Ride;LFairHouse$Script;LFairHouse$Step;)I"⟩, 2) := ⟨⟨by decide +kernel, by decide +kernel⟩, List.mem_of_getElem? (i := 385) (by decide +kernel), List.mem_of_getElem? (i := 1125) (by decide +kernel), List.mem_of_getElem? (i := 1126) (by decide +kernel)⟩
theorem lw_p36 : lw_okq (⟨"FairHouse$Runner", "unload", "(LFairHouse$Ride;LFairHouse$Step;)I"⟩, 2) := ⟨⟨by decide +kernel, by decide +kernel⟩, List.mem_of_getElem? (i := 385) (by decide +kernel), List.mem_of_getElem? (i := 1143) (by decide +kernel), List.mem_of_getElem? (i := 1144) (by decide +kernel)⟩
theorem lw_p37 : lw_okq (⟨"FairHouse$Runner", "decide", "(LFairHouse$Ride;LFairHouse$Step;)I"⟩, 2) := ⟨⟨by decide +kernel, by decide +kernel⟩, List.mem_of_getElem? (i := 385) (by decide +kernel), List.mem_of_getElem? (i := 1147) (by decide +kernel), List.mem_of_getElem? (i := 1148) (by decide +kernel)⟩
theorem lw_p38 : lw_okq (⟨"FairHouse$Runner", "claim", "(LFairHouse$Script;LFairHouse$Step;)I"⟩, 2) := ⟨⟨by decide +kernel, by decide +kernel⟩, List.mem_of_getElem? (i := 385) (by decide +kernel), List.mem_of_getElem? (i := 1156) (by decide +kernel), List.mem_of_getElem? (i := 1157) (by decide +kernel)⟩
theorem lw_p39 : lw_okq (⟨"FairHouse$Runner", "release", "(LFairHouse$Script;LFairHouse$Step;)I"⟩, 2) := ⟨⟨by decide +kernel, by decide +kernel⟩, List.mem_of_getElem? (i := 385) (by decide +kernel), List.mem_of_getElem? (i := 1160) (by decide +kernel), List.mem_of_getElem? (i := 1161) (by decide +kernel)⟩
theorem lw_p40 : lw_okq (⟨"FairHouse$Runner", "assign", "(LFairHouse$Ride;LFairHouse$Step;)I"⟩, 2) := ⟨⟨by decide +kernel, by decide +kernel⟩, List.mem_of_getElem? (i := 385) (by decide +kernel), List.mem_of_getElem? (i := 1168) (by decide +kernel), List.mem_of_getElem? (i := 1169) (by decide +kernel)⟩
theorem lw_p41 : lw_okq (⟨"FairHouse$Runner", "enter", "(LFairHouse$Ride;LFairHouse$Script;LFairHouse$Step;)I"⟩, 2) := ⟨⟨by decide +kernel, by decide +kernel⟩, List.mem_of_getElem? (i := 385) (by decide +kernel), List.mem_of_getElem? (i := 1173) (by decide +kernel), List.mem_of_getElem? (i := 1174) (by decide +kernel)⟩
theorem lw_p42 : lw_okq (⟨"FairHouse$Runner", "stall", "(LFairHouse$Ride;I)V"⟩, 2) := ⟨⟨by decide +kernel, by decide +kernel⟩, List.mem_of_getElem? (i := 385) (by decide +kernel), List.mem_of_getElem? (i := 1177) (by decide +kernel), List.mem_of_getElem? (i := 1178) (by decide +kernel)⟩
theorem lw_p43 : lw_okq (⟨"FairHouse$Runner", "freeAll", "(LFairHouse$Script;)V"⟩, 2) := ⟨⟨by decide +kernel, by decide +kernel⟩, List.mem_of_getElem? (i := 385) (by decide +kernel), List.mem_of_getElem? (i := 1189) (by decide +kernel), List.mem_of_getElem? (i := 1190) (by decide +kernel)⟩
theorem lw_p44 : lw_okq (⟨"FairHouse$Runner", "endIfOver", "(LFairHouse$Ride;)V"⟩, 2) := ⟨⟨by decide +kernel, by decide +kernel⟩, List.mem_of_getElem? (i := 385) (by decide +kernel), List.mem_of_getElem? (i := 1193) (by decide +kernel), List.mem_of_getElem? (i := 1194) (by decide +kernel)⟩
theorem lw_p45 : lw_okq (⟨"FairHouse$Ride", "easeSpeed", "()V"⟩, 16) := ⟨⟨by decide +kernel, by decide +kernel⟩, List.mem_of_getElem? (i := 43) (by decide +kernel), List.mem_of_getElem? (i := 1201) (by decide +kernel), List.mem_of_getElem? (i := 1202) (by decide +kernel)⟩
theorem lw_p46 : lw_okq (⟨"FairHouse$Ride", "easeHeight", "()V"⟩, 16) := ⟨⟨by decide +kernel, by decide +kernel⟩, List.mem_of_getElem? (i := 43) (by decide +kernel), List.mem_of_getElem? (i := 1210) (by decide +kernel), List.mem_of_getElem? (i := 1211) (by decide +kernel)⟩
theorem lw_p47 : lw_okq (⟨"FairHouse$Runner", "shed", "(I)V"⟩, 2) := ⟨⟨by decide +kernel, by decide +kernel⟩, List.mem_of_getElem? (i := 385) (by decide +kernel), List.mem_of_getElem? (i := 1217) (by decide +kernel), List.mem_of_getElem? (i := 1218) (by decide +kernel)⟩
def lw_privs_3 : List (MethodName × Nat) := [(⟨"FairHouse$Code", "push", "(I)V"⟩, 6), (⟨"FairHouse$Code", "pop", "()I"⟩, 6), (⟨"FairHouse$Code", "joined", "(III)I"⟩, 6), (⟨"FairHouse$Runner", "spend", "(LFairHouse$Ride;LFairHouse$Script;LFairHouse$Step;)I"⟩, 2), (⟨"FairHouse$Runner", "unload", "(LFairHouse$Ride;LFairHouse$Step;)I"⟩, 2), (⟨"FairHouse$Runner", "decide", "(LFairHouse$Ride;LFairHouse$Step;)I"⟩, 2), (⟨"FairHouse$Runner", "claim", "(LFairHouse$Script;LFairHouse$Step;)I"⟩, 2), (⟨"FairHouse$Runner", "release", "(LFairHouse$Script;LFairHouse$Step;)I"⟩, 2), (⟨"FairHouse$Runner", "assign", "(LFairHouse$Ride;LFairHouse$Step;)I"⟩, 2), (⟨"FairHouse$Runner", "enter", "(LFairHouse$Ride;LFairHouse$Script;LFairHouse$Step;)I"⟩, 2), (⟨"FairHouse$Runner", "stall", "(LFairHouse$Ride;I)V"⟩, 2), (⟨"FairHouse$Runner", "freeAll", "(LFairHouse$Script;)V"⟩, 2), (⟨"FairHouse$Runner", "endIfOver", "(LFairHouse$Ride;)V"⟩, 2), (⟨"FairHouse$Ride", "easeSpeed", "()V"⟩, 16), (⟨"FairHouse$Ride", "easeHeight", "()V"⟩, 16), (⟨"FairHouse$Runner", "shed", "(I)V"⟩, 2)]
theorem lw_r3 : ∀ q ∈ lw_privs_3, lw_okq q := List.forall_mem_cons.mpr ⟨lw_p32, List.forall_mem_cons.mpr ⟨lw_p33, List.forall_mem_cons.mpr ⟨lw_p34, List.forall_mem_cons.mpr ⟨lw_p35, List.forall_mem_cons.mpr ⟨lw_p36, List.forall_mem_cons.mpr ⟨lw_p37, List.forall_mem_cons.mpr ⟨lw_p38, List.forall_mem_cons.mpr ⟨lw_p39, List.forall_mem_cons.mpr ⟨lw_p40, List.forall_mem_cons.mpr ⟨lw_p41, List.forall_mem_cons.mpr ⟨lw_p42, List.forall_mem_cons.mpr ⟨lw_p43, List.forall_mem_cons.mpr ⟨lw_p44, List.forall_mem_cons.mpr ⟨lw_p45, List.forall_mem_cons.mpr ⟨lw_p46, List.forall_mem_cons.mpr ⟨lw_p47, fun _ h => absurd h List.not_mem_nil⟩⟩⟩⟩⟩⟩⟩⟩⟩⟩⟩⟩⟩⟩⟩⟩
theorem lw_p48 : lw_okq (⟨"FairHouse$Ride", "turnsDraw", "()I"⟩, 16) := ⟨⟨by decide +kernel, by decide +kernel⟩, List.mem_of_getElem? (i := 43) (by decide +kernel), List.mem_of_getElem? (i := 1229) (by decide +kernel), List.mem_of_getElem? (i := 1230) (by decide +kernel)⟩
theorem lw_p49 : lw_okq (⟨"FairHouse$Ride", "liftsDraw", "()I"⟩, 16) := ⟨⟨by decide +kernel, by decide +kernel⟩, List.mem_of_getElem? (i := 43) (by decide +kernel), List.mem_of_getElem? (i := 1233) (by decide +kernel), List.mem_of_getElem? (i := 1234) (by decide +kernel)⟩
theorem lw_p50 : lw_okq (⟨"FairHouse$Ride", "lampsDraw", "()I"⟩, 16) := ⟨⟨by decide +kernel, by decide +kernel⟩, List.mem_of_getElem? (i := 43) (by decide +kernel), List.mem_of_getElem? (i := 1237) (by decide +kernel), List.mem_of_getElem? (i := 1238) (by decide +kernel)⟩
theorem lw_p51 : lw_okq (⟨"FairHouse$Runner", "stallFromOutside", "(LFairHouse$Ride;I)V"⟩, 2) := ⟨⟨by decide +kernel, by decide +kernel⟩, List.mem_of_getElem? (i := 385) (by decide +kernel), List.mem_of_getElem? (i := 1255) (by decide +kernel), List.mem_of_getElem? (i := 1256) (by decide +kernel)⟩
theorem lw_p52 : lw_okq (⟨"FairHouse$Runner", "blow", "(LFairHouse$Ride;)V"⟩, 2) := ⟨⟨by decide +kernel, by decide +kernel⟩, List.mem_of_getElem? (i := 385) (by decide +kernel), List.mem_of_getElem? (i := 1259) (by decide +kernel), List.mem_of_getElem? (i := 1260) (by decide +kernel)⟩
theorem lw_p53 : lw_okq (⟨"FairHouse", "needFlag", "(I)V"⟩, 8) := ⟨⟨by decide +kernel, by decide +kernel⟩, List.mem_of_getElem? (i := 28) (by decide +kernel), List.mem_of_getElem? (i := 1328) (by decide +kernel), List.mem_of_getElem? (i := 1329) (by decide +kernel)⟩
theorem lw_p54 : lw_okq (⟨"FairHouseModel", "fair", "()V"⟩, 91) := ⟨⟨by decide +kernel, by decide +kernel⟩, List.mem_of_getElem? (i := 1368) (by decide +kernel), List.mem_of_getElem? (i := 1714) (by decide +kernel), List.mem_of_getElem? (i := 1715) (by decide +kernel)⟩
theorem lw_p55 : lw_okq (⟨"FairHouseModel", "cut", "()V"⟩, 91) := ⟨⟨by decide +kernel, by decide +kernel⟩, List.mem_of_getElem? (i := 1368) (by decide +kernel), List.mem_of_getElem? (i := 1718) (by decide +kernel), List.mem_of_getElem? (i := 1719) (by decide +kernel)⟩
theorem lw_p56 : lw_okq (⟨"FairHouseModel", "readWord", "()V"⟩, 91) := ⟨⟨by decide +kernel, by decide +kernel⟩, List.mem_of_getElem? (i := 1368) (by decide +kernel), List.mem_of_getElem? (i := 1725) (by decide +kernel), List.mem_of_getElem? (i := 1726) (by decide +kernel)⟩
theorem lw_p57 : lw_okq (⟨"FairHouseModel", "byteAt", "(I)I"⟩, 91) := ⟨⟨by decide +kernel, by decide +kernel⟩, List.mem_of_getElem? (i := 1368) (by decide +kernel), List.mem_of_getElem? (i := 1729) (by decide +kernel), List.mem_of_getElem? (i := 1730) (by decide +kernel)⟩
theorem lw_p58 : lw_okq (⟨"FairHouseModel", "readNumber", "()V"⟩, 91) := ⟨⟨by decide +kernel, by decide +kernel⟩, List.mem_of_getElem? (i := 1368) (by decide +kernel), List.mem_of_getElem? (i := 1738) (by decide +kernel), List.mem_of_getElem? (i := 1739) (by decide +kernel)⟩
theorem lw_p59 : lw_okq (⟨"FairHouseModel", "readSign", "(I)V"⟩, 91) := ⟨⟨by decide +kernel, by decide +kernel⟩, List.mem_of_getElem? (i := 1368) (by decide +kernel), List.mem_of_getElem? (i := 1742) (by decide +kernel), List.mem_of_getElem? (i := 1743) (by decide +kernel)⟩
theorem lw_p60 : lw_okq (⟨"FairHouseModel", "declaration", "()V"⟩, 91) := ⟨⟨by decide +kernel, by decide +kernel⟩, List.mem_of_getElem? (i := 1368) (by decide +kernel), List.mem_of_getElem? (i := 1746) (by decide +kernel), List.mem_of_getElem? (i := 1747) (by decide +kernel)⟩
theorem lw_p61 : lw_okq (⟨"FairHouseModel", "wrong", "(II)V"⟩, 91) := ⟨⟨by decide +kernel, by decide +kernel⟩, List.mem_of_getElem? (i := 1368) (by decide +kernel), List.mem_of_getElem? (i := 1750) (by decide +kernel), List.mem_of_getElem? (i := 1751) (by decide +kernel)⟩
theorem lw_p62 : lw_okq (⟨"FairHouseModel", "numberIn", "(II)I"⟩, 91) := ⟨⟨by decide +kernel, by decide +kernel⟩, List.mem_of_getElem? (i := 1368) (by decide +kernel), List.mem_of_getElem? (i := 1754) (by decide +kernel), List.mem_of_getElem? (i := 1755) (by decide +kernel)⟩
theorem lw_p63 : lw_okq (⟨"FairHouseModel", "newName", "(II)Z"⟩, 91) := ⟨⟨by decide +kernel, by decide +kernel⟩, List.mem_of_getElem? (i := 1368) (by decide +kernel), List.mem_of_getElem? (i := 1758) (by decide +kernel), List.mem_of_getElem? (i := 1759) (by decide +kernel)⟩
def lw_privs_4 : List (MethodName × Nat) := [(⟨"FairHouse$Ride", "turnsDraw", "()I"⟩, 16), (⟨"FairHouse$Ride", "liftsDraw", "()I"⟩, 16), (⟨"FairHouse$Ride", "lampsDraw", "()I"⟩, 16), (⟨"FairHouse$Runner", "stallFromOutside", "(LFairHouse$Ride;I)V"⟩, 2), (⟨"FairHouse$Runner", "blow", "(LFairHouse$Ride;)V"⟩, 2), (⟨"FairHouse", "needFlag", "(I)V"⟩, 8), (⟨"FairHouseModel", "fair", "()V"⟩, 91), (⟨"FairHouseModel", "cut", "()V"⟩, 91), (⟨"FairHouseModel", "readWord", "()V"⟩, 91), (⟨"FairHouseModel", "byteAt", "(I)I"⟩, 91), (⟨"FairHouseModel", "readNumber", "()V"⟩, 91), (⟨"FairHouseModel", "readSign", "(I)V"⟩, 91), (⟨"FairHouseModel", "declaration", "()V"⟩, 91), (⟨"FairHouseModel", "wrong", "(II)V"⟩, 91), (⟨"FairHouseModel", "numberIn", "(II)I"⟩, 91), (⟨"FairHouseModel", "newName", "(II)Z"⟩, 91)]
theorem lw_r4 : ∀ q ∈ lw_privs_4, lw_okq q := List.forall_mem_cons.mpr ⟨lw_p48, List.forall_mem_cons.mpr ⟨lw_p49, List.forall_mem_cons.mpr ⟨lw_p50, List.forall_mem_cons.mpr ⟨lw_p51, List.forall_mem_cons.mpr ⟨lw_p52, List.forall_mem_cons.mpr ⟨lw_p53, List.forall_mem_cons.mpr ⟨lw_p54, List.forall_mem_cons.mpr ⟨lw_p55, List.forall_mem_cons.mpr ⟨lw_p56, List.forall_mem_cons.mpr ⟨lw_p57, List.forall_mem_cons.mpr ⟨lw_p58, List.forall_mem_cons.mpr ⟨lw_p59, List.forall_mem_cons.mpr ⟨lw_p60, List.forall_mem_cons.mpr ⟨lw_p61, List.forall_mem_cons.mpr ⟨lw_p62, List.forall_mem_cons.mpr ⟨lw_p63, fun _ h => absurd h List.not_mem_nil⟩⟩⟩⟩⟩⟩⟩⟩⟩⟩⟩⟩⟩⟩⟩⟩
theorem lw_p64 : lw_okq (⟨"FairHouseModel", "known", "(II)I"⟩, 91) := ⟨⟨by decide +kernel, by decide +kernel⟩, List.mem_of_getElem? (i := 1368) (by decide +kernel), List.mem_of_getElem? (i := 1762) (by decide +kernel), List.mem_of_getElem? (i := 1763) (by decide +kernel)⟩
theorem lw_p65 : lw_okq (⟨"FairHouseModel", "ride", "()V"⟩, 91) := ⟨⟨by decide +kernel, by decide +kernel⟩, List.mem_of_getElem? (i := 1368) (by decide +kernel), List.mem_of_getElem? (i := 1766) (by decide +kernel), List.mem_of_getElem? (i := 1767) (by decide +kernel)⟩
theorem lw_p66 : lw_okq (⟨"FairHouseModel", "lead", "(I)V"⟩, 91) := ⟨⟨by decide +kernel, by decide +kernel⟩, List.mem_of_getElem? (i := 1368) (by decide +kernel), List.mem_of_getElem? (i := 1770) (by decide +kernel), List.mem_of_getElem? (i := 1771) (by decide +kernel)⟩
theorem lw_p67 : lw_okq (⟨"FairHouseModel", "oldName", "(I)I"⟩, 91) := ⟨⟨by decide +kernel, by decide +kernel⟩, List.mem_of_getElem? (i := 1368) (by decide +kernel), List.mem_of_getElem? (i := 1774) (by decide +kernel), List.mem_of_getElem? (i := 1775) (by decide +kernel)⟩
theorem lw_p68 : lw_okq (⟨"FairHouseModel", "block", "(II)Z"⟩, 91) := ⟨⟨by decide +kernel, by decide +kernel⟩, List.mem_of_getElem? (i := 1368) (by decide +kernel), List.mem_of_getElem? (i := 1778) (by decide +kernel), List.mem_of_getElem? (i := 1779) (by decide +kernel)⟩
theorem lw_p69 : lw_okq (⟨"FairHouseModel", "isSign", "(I)Z"⟩, 91) := ⟨⟨by decide +kernel, by decide +kernel⟩, List.mem_of_getElem? (i := 1368) (by decide +kernel), List.mem_of_getElem? (i := 1782) (by decide +kernel), List.mem_of_getElem? (i := 1783) (by decide +kernel)⟩
theorem lw_p70 : lw_okq (⟨"FairHouseModel", "step", "(II)V"⟩, 91) := ⟨⟨by decide +kernel, by decide +kernel⟩, List.mem_of_getElem? (i := 1368) (by decide +kernel), List.mem_of_getElem? (i := 1786) (by decide +kernel), List.mem_of_getElem? (i := 1787) (by decide +kernel)⟩
theorem lw_p71 : lw_okq (⟨"FairHouseModel", "fits", "(I)Z"⟩, 91) := ⟨⟨by decide +kernel, by decide +kernel⟩, List.mem_of_getElem? (i := 1368) (by decide +kernel), List.mem_of_getElem? (i := 1793) (by decide +kernel), List.mem_of_getElem? (i := 1794) (by decide +kernel)⟩
theorem lw_p72 : lw_okq (⟨"FairHouseModel", "blocks", "(IIII)V"⟩, 91) := ⟨⟨by decide +kernel, by decide +kernel⟩, List.mem_of_getElem? (i := 1368) (by decide +kernel), List.mem_of_getElem? (i := 1797) (by decide +kernel), List.mem_of_getElem? (i := 1798) (by decide +kernel)⟩
theorem lw_p73 : lw_okq (⟨"FairHouseModel", "expression", "()I"⟩, 91) := ⟨⟨by decide +kernel, by decide +kernel⟩, List.mem_of_getElem? (i := 1368) (by decide +kernel), List.mem_of_getElem? (i := 1801) (by decide +kernel), List.mem_of_getElem? (i := 1802) (by decide +kernel)⟩
theorem lw_p74 : lw_okq (⟨"FairHouseModel", "sum", "()V"⟩, 91) := ⟨⟨by decide +kernel, by decide +kernel⟩, List.mem_of_getElem? (i := 1368) (by decide +kernel), List.mem_of_getElem? (i := 1805) (by decide +kernel), List.mem_of_getElem? (i := 1806) (by decide +kernel)⟩
theorem lw_p75 : lw_okq (⟨"FairHouseModel", "product", "()V"⟩, 91) := ⟨⟨by decide +kernel, by decide +kernel⟩, List.mem_of_getElem? (i := 1368) (by decide +kernel), List.mem_of_getElem? (i := 1809) (by decide +kernel), List.mem_of_getElem? (i := 1810) (by decide +kernel)⟩
theorem lw_p76 : lw_okq (⟨"FairHouseModel", "factor", "()V"⟩, 91) := ⟨⟨by decide +kernel, by decide +kernel⟩, List.mem_of_getElem? (i := 1368) (by decide +kernel), List.mem_of_getElem? (i := 1813) (by decide +kernel), List.mem_of_getElem? (i := 1814) (by decide +kernel)⟩
theorem lw_p77 : lw_okq (⟨"FairHouseModel", "newCode", "(III)V"⟩, 91) := ⟨⟨by decide +kernel, by decide +kernel⟩, List.mem_of_getElem? (i := 1368) (by decide +kernel), List.mem_of_getElem? (i := 1817) (by decide +kernel), List.mem_of_getElem? (i := 1818) (by decide +kernel)⟩
theorem lw_p78 : lw_okq (⟨"FairHouseModel", "need", "(I)Z"⟩, 91) := ⟨⟨by decide +kernel, by decide +kernel⟩, List.mem_of_getElem? (i := 1368) (by decide +kernel), List.mem_of_getElem? (i := 1821) (by decide +kernel), List.mem_of_getElem? (i := 1822) (by decide +kernel)⟩
theorem lw_p79 : lw_okq (⟨"FairHouseModel", "wordFactor", "()V"⟩, 91) := ⟨⟨by decide +kernel, by decide +kernel⟩, List.mem_of_getElem? (i := 1368) (by decide +kernel), List.mem_of_getElem? (i := 1825) (by decide +kernel), List.mem_of_getElem? (i := 1826) (by decide +kernel)⟩
def lw_privs_5 : List (MethodName × Nat) := [(⟨"FairHouseModel", "known", "(II)I"⟩, 91), (⟨"FairHouseModel", "ride", "()V"⟩, 91), (⟨"FairHouseModel", "lead", "(I)V"⟩, 91), (⟨"FairHouseModel", "oldName", "(I)I"⟩, 91), (⟨"FairHouseModel", "block", "(II)Z"⟩, 91), (⟨"FairHouseModel", "isSign", "(I)Z"⟩, 91), (⟨"FairHouseModel", "step", "(II)V"⟩, 91), (⟨"FairHouseModel", "fits", "(I)Z"⟩, 91), (⟨"FairHouseModel", "blocks", "(IIII)V"⟩, 91), (⟨"FairHouseModel", "expression", "()I"⟩, 91), (⟨"FairHouseModel", "sum", "()V"⟩, 91), (⟨"FairHouseModel", "product", "()V"⟩, 91), (⟨"FairHouseModel", "factor", "()V"⟩, 91), (⟨"FairHouseModel", "newCode", "(III)V"⟩, 91), (⟨"FairHouseModel", "need", "(I)Z"⟩, 91), (⟨"FairHouseModel", "wordFactor", "()V"⟩, 91)]
theorem lw_r5 : ∀ q ∈ lw_privs_5, lw_okq q := List.forall_mem_cons.mpr ⟨lw_p64, List.forall_mem_cons.mpr ⟨lw_p65, List.forall_mem_cons.mpr ⟨lw_p66, List.forall_mem_cons.mpr ⟨lw_p67, List.forall_mem_cons.mpr ⟨lw_p68, List.forall_mem_cons.mpr ⟨lw_p69, List.forall_mem_cons.mpr ⟨lw_p70, List.forall_mem_cons.mpr ⟨lw_p71, List.forall_mem_cons.mpr ⟨lw_p72, List.forall_mem_cons.mpr ⟨lw_p73, List.forall_mem_cons.mpr ⟨lw_p74, List.forall_mem_cons.mpr ⟨lw_p75, List.forall_mem_cons.mpr ⟨lw_p76, List.forall_mem_cons.mpr ⟨lw_p77, List.forall_mem_cons.mpr ⟨lw_p78, List.forall_mem_cons.mpr ⟨lw_p79, fun _ h => absurd h List.not_mem_nil⟩⟩⟩⟩⟩⟩⟩⟩⟩⟩⟩⟩⟩⟩⟩⟩
theorem lw_p80 : lw_okq (⟨"FairHouseModel", "measureOf", "()I"⟩, 91) := ⟨⟨by decide +kernel, by decide +kernel⟩, List.mem_of_getElem? (i := 1368) (by decide +kernel), List.mem_of_getElem? (i := 1829) (by decide +kernel), List.mem_of_getElem? (i := 1830) (by decide +kernel)⟩
theorem lw_p81 : lw_okq (⟨"FairHouseModel", "newOp", "(IIIIII)I"⟩, 91) := ⟨⟨by decide +kernel, by decide +kernel⟩, List.mem_of_getElem? (i := 1368) (by decide +kernel), List.mem_of_getElem? (i := 1833) (by decide +kernel), List.mem_of_getElem? (i := 1834) (by decide +kernel)⟩
theorem lw_p82 : lw_okq (⟨"FairHouseModel", "condition", "()I"⟩, 91) := ⟨⟨by decide +kernel, by decide +kernel⟩, List.mem_of_getElem? (i := 1368) (by decide +kernel), List.mem_of_getElem? (i := 1837) (by decide +kernel), List.mem_of_getElem? (i := 1838) (by decide +kernel)⟩
theorem lw_p83 : lw_okq (⟨"FairHouseModel", "question", "()V"⟩, 91) := ⟨⟨by decide +kernel, by decide +kernel⟩, List.mem_of_getElem? (i := 1368) (by decide +kernel), List.mem_of_getElem? (i := 1841) (by decide +kernel), List.mem_of_getElem? (i := 1842) (by decide +kernel)⟩
theorem lw_p84 : lw_okq (⟨"FairHouseModel", "isWord", "(I)Z"⟩, 91) := ⟨⟨by decide +kernel, by decide +kernel⟩, List.mem_of_getElem? (i := 1368) (by decide +kernel), List.mem_of_getElem? (i := 1845) (by decide +kernel), List.mem_of_getElem? (i := 1846) (by decide +kernel)⟩
theorem lw_p85 : lw_okq (⟨"FairHouseModel", "begin", "()V"⟩, 91) := ⟨⟨by decide +kernel, by decide +kernel⟩, List.mem_of_getElem? (i := 1368) (by decide +kernel), List.mem_of_getElem? (i := 1849) (by decide +kernel), List.mem_of_getElem? (i := 1850) (by decide +kernel)⟩
theorem lw_p86 : lw_okq (⟨"FairHouseModel", "isRide", "(I)Z"⟩, 91) := ⟨⟨by decide +kernel, by decide +kernel⟩, List.mem_of_getElem? (i := 1368) (by decide +kernel), List.mem_of_getElem? (i := 1869) (by decide +kernel), List.mem_of_getElem? (i := 1870) (by decide +kernel)⟩
theorem lw_p87 : lw_okq (⟨"FairHouseModel", "has", "(II)Z"⟩, 91) := ⟨⟨by decide +kernel, by decide +kernel⟩, List.mem_of_getElem? (i := 1368) (by decide +kernel), List.mem_of_getElem? (i := 1873) (by decide +kernel), List.mem_of_getElem? (i := 1874) (by decide +kernel)⟩
theorem lw_p88 : lw_okq (⟨"FairHouseModel", "may", "(ZZ)Z"⟩, 91) := ⟨⟨by decide +kernel, by decide +kernel⟩, List.mem_of_getElem? (i := 1368) (by decide +kernel), List.mem_of_getElem? (i := 1877) (by decide +kernel), List.mem_of_getElem? (i := 1878) (by decide +kernel)⟩
theorem lw_p89 : lw_okq (⟨"FairHouseModel", "queue", "(I)I"⟩, 91) := ⟨⟨by decide +kernel, by decide +kernel⟩, List.mem_of_getElem? (i := 1368) (by decide +kernel), List.mem_of_getElem? (i := 1881) (by decide +kernel), List.mem_of_getElem? (i := 1882) (by decide +kernel)⟩
theorem lw_p90 : lw_okq (⟨"FairHouseModel", "ticks", "()V"⟩, 91) := ⟨⟨by decide +kernel, by decide +kernel⟩, List.mem_of_getElem? (i := 1368) (by decide +kernel), List.mem_of_getElem? (i := 1893) (by decide +kernel), List.mem_of_getElem? (i := 1894) (by decide +kernel)⟩
theorem lw_p91 : lw_okq (⟨"FairHouseModel", "leaves", "(I)V"⟩, 91) := ⟨⟨by decide +kernel, by decide +kernel⟩, List.mem_of_getElem? (i := 1368) (by decide +kernel), List.mem_of_getElem? (i := 1897) (by decide +kernel), List.mem_of_getElem? (i := 1898) (by decide +kernel)⟩
theorem lw_p92 : lw_okq (⟨"FairHouseModel", "note", "(III)V"⟩, 91) := ⟨⟨by decide +kernel, by decide +kernel⟩, List.mem_of_getElem? (i := 1368) (by decide +kernel), List.mem_of_getElem? (i := 1901) (by decide +kernel), List.mem_of_getElem? (i := 1902) (by decide +kernel)⟩
theorem lw_p93 : lw_okq (⟨"FairHouseModel", "goesOn", "(I)V"⟩, 91) := ⟨⟨by decide +kernel, by decide +kernel⟩, List.mem_of_getElem? (i := 1368) (by decide +kernel), List.mem_of_getElem? (i := 1905) (by decide +kernel), List.mem_of_getElem? (i := 1906) (by decide +kernel)⟩
theorem lw_p94 : lw_okq (⟨"FairHouseModel", "isOver", "(I)V"⟩, 91) := ⟨⟨by decide +kernel, by decide +kernel⟩, List.mem_of_getElem? (i := 1368) (by decide +kernel), List.mem_of_getElem? (i := 1909) (by decide +kernel), List.mem_of_getElem? (i := 1910) (by decide +kernel)⟩
theorem lw_p95 : lw_okq (⟨"FairHouseModel", "does", "(I)Z"⟩, 91) := ⟨⟨by decide +kernel, by decide +kernel⟩, List.mem_of_getElem? (i := 1368) (by decide +kernel), List.mem_of_getElem? (i := 1913) (by decide +kernel), List.mem_of_getElem? (i := 1914) (by decide +kernel)⟩
def lw_privs_6 : List (MethodName × Nat) := [(⟨"FairHouseModel", "measureOf", "()I"⟩, 91), (⟨"FairHouseModel", "newOp", "(IIIIII)I"⟩, 91), (⟨"FairHouseModel", "condition", "()I"⟩, 91), (⟨"FairHouseModel", "question", "()V"⟩, 91), (⟨"FairHouseModel", "isWord", "(I)Z"⟩, 91), (⟨"FairHouseModel", "begin", "()V"⟩, 91), (⟨"FairHouseModel", "isRide", "(I)Z"⟩, 91), (⟨"FairHouseModel", "has", "(II)Z"⟩, 91), (⟨"FairHouseModel", "may", "(ZZ)Z"⟩, 91), (⟨"FairHouseModel", "queue", "(I)I"⟩, 91), (⟨"FairHouseModel", "ticks", "()V"⟩, 91), (⟨"FairHouseModel", "leaves", "(I)V"⟩, 91), (⟨"FairHouseModel", "note", "(III)V"⟩, 91), (⟨"FairHouseModel", "goesOn", "(I)V"⟩, 91), (⟨"FairHouseModel", "isOver", "(I)V"⟩, 91), (⟨"FairHouseModel", "does", "(I)Z"⟩, 91)]
theorem lw_r6 : ∀ q ∈ lw_privs_6, lw_okq q := List.forall_mem_cons.mpr ⟨lw_p80, List.forall_mem_cons.mpr ⟨lw_p81, List.forall_mem_cons.mpr ⟨lw_p82, List.forall_mem_cons.mpr ⟨lw_p83, List.forall_mem_cons.mpr ⟨lw_p84, List.forall_mem_cons.mpr ⟨lw_p85, List.forall_mem_cons.mpr ⟨lw_p86, List.forall_mem_cons.mpr ⟨lw_p87, List.forall_mem_cons.mpr ⟨lw_p88, List.forall_mem_cons.mpr ⟨lw_p89, List.forall_mem_cons.mpr ⟨lw_p90, List.forall_mem_cons.mpr ⟨lw_p91, List.forall_mem_cons.mpr ⟨lw_p92, List.forall_mem_cons.mpr ⟨lw_p93, List.forall_mem_cons.mpr ⟨lw_p94, List.forall_mem_cons.mpr ⟨lw_p95, fun _ h => absurd h List.not_mem_nil⟩⟩⟩⟩⟩⟩⟩⟩⟩⟩⟩⟩⟩⟩⟩⟩
theorem lw_p96 : lw_okq (⟨"FairHouseModel", "takes", "(II)Z"⟩, 91) := ⟨⟨by decide +kernel, by decide +kernel⟩, List.mem_of_getElem? (i := 1368) (by decide +kernel), List.mem_of_getElem? (i := 1917) (by decide +kernel), List.mem_of_getElem? (i := 1918) (by decide +kernel)⟩
theorem lw_p97 : lw_okq (⟨"FairHouseModel", "value", "(II)I"⟩, 91) := ⟨⟨by decide +kernel, by decide +kernel⟩, List.mem_of_getElem? (i := 1368) (by decide +kernel), List.mem_of_getElem? (i := 1921) (by decide +kernel), List.mem_of_getElem? (i := 1922) (by decide +kernel)⟩
theorem lw_p98 : lw_okq (⟨"FairHouseModel", "push", "(I)V"⟩, 91) := ⟨⟨by decide +kernel, by decide +kernel⟩, List.mem_of_getElem? (i := 1368) (by decide +kernel), List.mem_of_getElem? (i := 1925) (by decide +kernel), List.mem_of_getElem? (i := 1926) (by decide +kernel)⟩
theorem lw_p99 : lw_okq (⟨"FairHouseModel", "measured", "(II)I"⟩, 91) := ⟨⟨by decide +kernel, by decide +kernel⟩, List.mem_of_getElem? (i := 1368) (by decide +kernel), List.mem_of_getElem? (i := 1929) (by decide +kernel), List.mem_of_getElem? (i := 1930) (by decide +kernel)⟩
theorem lw_p100 : lw_okq (⟨"FairHouseModel", "two", "(I)V"⟩, 91) := ⟨⟨by decide +kernel, by decide +kernel⟩, List.mem_of_getElem? (i := 1368) (by decide +kernel), List.mem_of_getElem? (i := 1933) (by decide +kernel), List.mem_of_getElem? (i := 1934) (by decide +kernel)⟩
theorem lw_p101 : lw_okq (⟨"FairHouseModel", "stalls", "(II)V"⟩, 91) := ⟨⟨by decide +kernel, by decide +kernel⟩, List.mem_of_getElem? (i := 1368) (by decide +kernel), List.mem_of_getElem? (i := 1937) (by decide +kernel), List.mem_of_getElem? (i := 1938) (by decide +kernel)⟩
theorem lw_p102 : lw_okq (⟨"FairHouseModel", "goTo", "(II)V"⟩, 91) := ⟨⟨by decide +kernel, by decide +kernel⟩, List.mem_of_getElem? (i := 1368) (by decide +kernel), List.mem_of_getElem? (i := 1941) (by decide +kernel), List.mem_of_getElem? (i := 1942) (by decide +kernel)⟩
theorem lw_p103 : lw_okq (⟨"FairHouseModel", "isCalm", "(I)Z"⟩, 91) := ⟨⟨by decide +kernel, by decide +kernel⟩, List.mem_of_getElem? (i := 1368) (by decide +kernel), List.mem_of_getElem? (i := 1945) (by decide +kernel), List.mem_of_getElem? (i := 1946) (by decide +kernel)⟩
theorem lw_p104 : lw_okq (⟨"FairHouseModel", "board", "(I)V"⟩, 91) := ⟨⟨by decide +kernel, by decide +kernel⟩, List.mem_of_getElem? (i := 1368) (by decide +kernel), List.mem_of_getElem? (i := 1949) (by decide +kernel), List.mem_of_getElem? (i := 1950) (by decide +kernel)⟩
theorem lw_p105 : lw_okq (⟨"FairHouseModel", "shares", "(II)Z"⟩, 91) := ⟨⟨by decide +kernel, by decide +kernel⟩, List.mem_of_getElem? (i := 1368) (by decide +kernel), List.mem_of_getElem? (i := 1953) (by decide +kernel), List.mem_of_getElem? (i := 1954) (by decide +kernel)⟩
theorem lw_p106 : lw_okq (⟨"FairHouseModel", "isTrue", "(II)Z"⟩, 91) := ⟨⟨by decide +kernel, by decide +kernel⟩, List.mem_of_getElem? (i := 1368) (by decide +kernel), List.mem_of_getElem? (i := 1957) (by decide +kernel), List.mem_of_getElem? (i := 1958) (by decide +kernel)⟩
theorem lw_p107 : lw_okq (⟨"FairHouseModel", "asked", "(II)Z"⟩, 91) := ⟨⟨by decide +kernel, by decide +kernel⟩, List.mem_of_getElem? (i := 1368) (by decide +kernel), List.mem_of_getElem? (i := 1961) (by decide +kernel), List.mem_of_getElem? (i := 1962) (by decide +kernel)⟩
theorem lw_p108 : lw_okq (⟨"FairHouseModel", "unload", "(II)V"⟩, 91) := ⟨⟨by decide +kernel, by decide +kernel⟩, List.mem_of_getElem? (i := 1368) (by decide +kernel), List.mem_of_getElem? (i := 1965) (by decide +kernel), List.mem_of_getElem? (i := 1966) (by decide +kernel)⟩
theorem lw_p109 : lw_okq (⟨"FairHouseModel", "worked", "(II)V"⟩, 91) := ⟨⟨by decide +kernel, by decide +kernel⟩, List.mem_of_getElem? (i := 1368) (by decide +kernel), List.mem_of_getElem? (i := 1969) (by decide +kernel), List.mem_of_getElem? (i := 1970) (by decide +kernel)⟩
theorem lw_p110 : lw_okq (⟨"FairHouseModel", "eases", "(I)V"⟩, 91) := ⟨⟨by decide +kernel, by decide +kernel⟩, List.mem_of_getElem? (i := 1368) (by decide +kernel), List.mem_of_getElem? (i := 1973) (by decide +kernel), List.mem_of_getElem? (i := 1974) (by decide +kernel)⟩
theorem lw_p111 : lw_okq (⟨"FairHouseModel", "shed", "()V"⟩, 91) := ⟨⟨by decide +kernel, by decide +kernel⟩, List.mem_of_getElem? (i := 1368) (by decide +kernel), List.mem_of_getElem? (i := 1983) (by decide +kernel), List.mem_of_getElem? (i := 1984) (by decide +kernel)⟩
def lw_privs_7 : List (MethodName × Nat) := [(⟨"FairHouseModel", "takes", "(II)Z"⟩, 91), (⟨"FairHouseModel", "value", "(II)I"⟩, 91), (⟨"FairHouseModel", "push", "(I)V"⟩, 91), (⟨"FairHouseModel", "measured", "(II)I"⟩, 91), (⟨"FairHouseModel", "two", "(I)V"⟩, 91), (⟨"FairHouseModel", "stalls", "(II)V"⟩, 91), (⟨"FairHouseModel", "goTo", "(II)V"⟩, 91), (⟨"FairHouseModel", "isCalm", "(I)Z"⟩, 91), (⟨"FairHouseModel", "board", "(I)V"⟩, 91), (⟨"FairHouseModel", "shares", "(II)Z"⟩, 91), (⟨"FairHouseModel", "isTrue", "(II)Z"⟩, 91), (⟨"FairHouseModel", "asked", "(II)Z"⟩, 91), (⟨"FairHouseModel", "unload", "(II)V"⟩, 91), (⟨"FairHouseModel", "worked", "(II)V"⟩, 91), (⟨"FairHouseModel", "eases", "(I)V"⟩, 91), (⟨"FairHouseModel", "shed", "()V"⟩, 91)]
theorem lw_r7 : ∀ q ∈ lw_privs_7, lw_okq q := List.forall_mem_cons.mpr ⟨lw_p96, List.forall_mem_cons.mpr ⟨lw_p97, List.forall_mem_cons.mpr ⟨lw_p98, List.forall_mem_cons.mpr ⟨lw_p99, List.forall_mem_cons.mpr ⟨lw_p100, List.forall_mem_cons.mpr ⟨lw_p101, List.forall_mem_cons.mpr ⟨lw_p102, List.forall_mem_cons.mpr ⟨lw_p103, List.forall_mem_cons.mpr ⟨lw_p104, List.forall_mem_cons.mpr ⟨lw_p105, List.forall_mem_cons.mpr ⟨lw_p106, List.forall_mem_cons.mpr ⟨lw_p107, List.forall_mem_cons.mpr ⟨lw_p108, List.forall_mem_cons.mpr ⟨lw_p109, List.forall_mem_cons.mpr ⟨lw_p110, List.forall_mem_cons.mpr ⟨lw_p111, fun _ h => absurd h List.not_mem_nil⟩⟩⟩⟩⟩⟩⟩⟩⟩⟩⟩⟩⟩⟩⟩⟩
theorem lw_p112 : lw_okq (⟨"FairHouseModel", "draw", "(I)I"⟩, 91) := ⟨⟨by decide +kernel, by decide +kernel⟩, List.mem_of_getElem? (i := 1368) (by decide +kernel), List.mem_of_getElem? (i := 1987) (by decide +kernel), List.mem_of_getElem? (i := 1988) (by decide +kernel)⟩
theorem lw_p113 : lw_okq (⟨"FairHouseModel", "limit", "(I)I"⟩, 91) := ⟨⟨by decide +kernel, by decide +kernel⟩, List.mem_of_getElem? (i := 1368) (by decide +kernel), List.mem_of_getElem? (i := 1991) (by decide +kernel), List.mem_of_getElem? (i := 1992) (by decide +kernel)⟩
theorem lw_p114 : lw_okq (⟨"FairHouseModel", "tear", "(I)I"⟩, 91) := ⟨⟨by decide +kernel, by decide +kernel⟩, List.mem_of_getElem? (i := 1368) (by decide +kernel), List.mem_of_getElem? (i := 1995) (by decide +kernel), List.mem_of_getElem? (i := 1996) (by decide +kernel)⟩
theorem lw_p115 : lw_okq (⟨"FairHouseModel", "noise", "(I)I"⟩, 91) := ⟨⟨by decide +kernel, by decide +kernel⟩, List.mem_of_getElem? (i := 1368) (by decide +kernel), List.mem_of_getElem? (i := 2007) (by decide +kernel), List.mem_of_getElem? (i := 2008) (by decide +kernel)⟩
def lw_privs_8 : List (MethodName × Nat) := [(⟨"FairHouseModel", "draw", "(I)I"⟩, 91), (⟨"FairHouseModel", "limit", "(I)I"⟩, 91), (⟨"FairHouseModel", "tear", "(I)I"⟩, 91), (⟨"FairHouseModel", "noise", "(I)I"⟩, 91)]
theorem lw_r8 : ∀ q ∈ lw_privs_8, lw_okq q := List.forall_mem_cons.mpr ⟨lw_p112, List.forall_mem_cons.mpr ⟨lw_p113, List.forall_mem_cons.mpr ⟨lw_p114, List.forall_mem_cons.mpr ⟨lw_p115, fun _ h => absurd h List.not_mem_nil⟩⟩⟩⟩
def lw_privs : List (MethodName × Nat) := lw_privs_1 ++ (lw_privs_2 ++ (lw_privs_3 ++ (lw_privs_4 ++ (lw_privs_5 ++ (lw_privs_6 ++ (lw_privs_7 ++ (lw_privs_8)))))))
def lw_tbl : List Cond := k2_sels lw_privs ++ tables_1
theorem lw_privs_ok : ∀ q ∈ lw_privs, lw_okq q := by
  show ∀ q ∈ lw_privs_1 ++ (lw_privs_2 ++ (lw_privs_3 ++ (lw_privs_4 ++ (lw_privs_5 ++ (lw_privs_6 ++ (lw_privs_7 ++ (lw_privs_8))))))), lw_okq q
  exact List.forall_mem_append.mpr ⟨lw_r1, List.forall_mem_append.mpr ⟨lw_r2, List.forall_mem_append.mpr ⟨lw_r3, List.forall_mem_append.mpr ⟨lw_r4, List.forall_mem_append.mpr ⟨lw_r5, List.forall_mem_append.mpr ⟨lw_r6, List.forall_mem_append.mpr ⟨lw_r7, lw_r8⟩⟩⟩⟩⟩⟩⟩
def RX0 : String := "FairHouse$Code"
def TX0 : u_T := fun k => match k with
  | 0 => ("FairHouse$Code", "fair", "LFairHouse$Fair;", true)
  | 1 => ("FairHouse$Code", "cells", "[I", true)
  | 2 => ("FairHouse$Code", "stack", "[I", true)
  | 3 => ("FairHouse$Code", "count", "I", false)
  | 4 => ("FairHouse$Code", "top", "I", false)
  | _ => ("FairHouse$Code", "byZero", "Z", false)
def tyX0 : Nat → FieldType := fun k => match k with
  | 0 => .object "FairHouse$Fair"
  | 1 => .array .int
  | 2 => .array .int
  | 3 => .int
  | 4 => .int
  | _ => .boolean
abbrev wsX00 : List Cond := u_ws RX0 TX0 6
theorem nmX0 : ∀ a, a < 6 → ∀ b, b < 6 → a ≠ b → (TX0 a).2.1 ≠ (TX0 b).2.1 := by decide +kernel
theorem tyX0_ok : ∀ k, k < 6 → parseFieldDescriptor (TX0 k).2.2.1 = some (tyX0 k) := by decide +kernel

def RX1 : String := "FairHouse$Fair"
def TX1 : u_T := fun k => match k with
  | 0 => ("FairHouse$Fair", "rides", "[LFairHouse$Ride;", true)
  | 1 => ("FairHouse$Fair", "staffAll", "[I", true)
  | 2 => ("FairHouse$Fair", "staffFree", "[I", true)
  | 3 => ("FairHouse$Fair", "logRows", "[I", true)
  | 4 => ("FairHouse$Fair", "rideCount", "I", false)
  | 5 => ("FairHouse$Fair", "staffCount", "I", false)
  | 6 => ("FairHouse$Fair", "flagCount", "I", false)
  | 7 => ("FairHouse$Fair", "flags", "I", false)
  | 8 => ("FairHouse$Fair", "power", "I", false)
  | 9 => ("FairHouse$Fair", "clock", "I", false)
  | 10 => ("FairHouse$Fair", "wind", "I", false)
  | 11 => ("FairHouse$Fair", "served", "I", false)
  | 12 => ("FairHouse$Fair", "gone", "I", false)
  | 13 => ("FairHouse$Fair", "waited", "I", false)
  | _ => ("FairHouse$Fair", "logCount", "I", false)
def tyX1 : Nat → FieldType := fun k => match k with
  | 0 => .array (.object "FairHouse$Ride")
  | 1 => .array .int
  | 2 => .array .int
  | 3 => .array .int
  | 4 => .int
  | 5 => .int
  | 6 => .int
  | 7 => .int
  | 8 => .int
  | 9 => .int
  | 10 => .int
  | 11 => .int
  | 12 => .int
  | 13 => .int
  | _ => .int
abbrev wsX10 : List Cond := u_ws RX1 TX1 15
theorem nmX1 : ∀ a, a < 15 → ∀ b, b < 15 → a ≠ b → (TX1 a).2.1 ≠ (TX1 b).2.1 := by decide +kernel
theorem tyX1_ok : ∀ k, k < 15 → parseFieldDescriptor (TX1 k).2.2.1 = some (tyX1 k) := by decide +kernel

def RX2 : String := "FairHouse$FairReader"
def TX2 : u_T := fun k => match k with
  | 0 => ("FairHouse$FairReader", "text", "LFairHouse$Text;", true)
  | 1 => ("FairHouse$FairReader", "names", "LFairHouse$Names;", true)
  | 2 => ("FairHouse$FairReader", "formulas", "LFairHouse$FormulaReader;", true)
  | 3 => ("FairHouse$FairReader", "fair", "LFairHouse$Fair;", true)
  | 4 => ("FairHouse$FairReader", "code", "LFairHouse$Code;", true)
  | 5 => ("FairHouse$FairReader", "powerTold", "Z", false)
  | _ => ("FairHouse$FairReader", "steps", "I", false)
def tyX2 : Nat → FieldType := fun k => match k with
  | 0 => .object "FairHouse$Text"
  | 1 => .object "FairHouse$Names"
  | 2 => .object "FairHouse$FormulaReader"
  | 3 => .object "FairHouse$Fair"
  | 4 => .object "FairHouse$Code"
  | 5 => .boolean
  | _ => .int
abbrev wsX20 : List Cond := u_ws RX2 TX2 7
theorem nmX2 : ∀ a, a < 7 → ∀ b, b < 7 → a ≠ b → (TX2 a).2.1 ≠ (TX2 b).2.1 := by decide +kernel
theorem tyX2_ok : ∀ k, k < 7 → parseFieldDescriptor (TX2 k).2.2.1 = some (tyX2 k) := by decide +kernel

def RX3 : String := "FairHouse$FormulaReader"
def TX3 : u_T := fun k => match k with
  | 0 => ("FairHouse$FormulaReader", "text", "LFairHouse$Text;", true)
  | 1 => ("FairHouse$FormulaReader", "names", "LFairHouse$Names;", true)
  | _ => ("FairHouse$FormulaReader", "code", "LFairHouse$Code;", true)
def tyX3 : Nat → FieldType := fun k => match k with
  | 0 => .object "FairHouse$Text"
  | 1 => .object "FairHouse$Names"
  | _ => .object "FairHouse$Code"
abbrev wsX30 : List Cond := u_ws RX3 TX3 3
theorem nmX3 : ∀ a, a < 3 → ∀ b, b < 3 → a ≠ b → (TX3 a).2.1 ≠ (TX3 b).2.1 := by decide +kernel
theorem tyX3_ok : ∀ k, k < 3 → parseFieldDescriptor (TX3 k).2.2.1 = some (tyX3 k) := by decide +kernel

def RX4 : String := "FairHouse$Names"
def TX4 : u_T := fun k => match k with
  | 0 => ("FairHouse$Names", "text", "LFairHouse$Text;", true)
  | 1 => ("FairHouse$Names", "tokens", "[I", true)
  | 2 => ("FairHouse$Names", "sorts", "[I", true)
  | 3 => ("FairHouse$Names", "numbers", "[I", true)
  | _ => ("FairHouse$Names", "count", "I", false)
def tyX4 : Nat → FieldType := fun k => match k with
  | 0 => .object "FairHouse$Text"
  | 1 => .array .int
  | 2 => .array .int
  | 3 => .array .int
  | _ => .int
abbrev wsX40 : List Cond := u_ws RX4 TX4 5
theorem nmX4 : ∀ a, a < 5 → ∀ b, b < 5 → a ≠ b → (TX4 a).2.1 ≠ (TX4 b).2.1 := by decide +kernel
theorem tyX4_ok : ∀ k, k < 5 → parseFieldDescriptor (TX4 k).2.2.1 = some (tyX4 k) := by decide +kernel

def RX5 : String := "FairHouse$Queue"
def TX5 : u_T := fun k => match k with
  | 0 => ("FairHouse$Queue", "riders", "[I", true)
  | 1 => ("FairHouse$Queue", "clocks", "[I", true)
  | 2 => ("FairHouse$Queue", "groups", "I", false)
  | 3 => ("FairHouse$Queue", "all", "I", false)
  | _ => ("FairHouse$Queue", "latestWait", "I", false)
def tyX5 : Nat → FieldType := fun k => match k with
  | 0 => .array .int
  | 1 => .array .int
  | 2 => .int
  | 3 => .int
  | _ => .int
abbrev wsX50 : List Cond := u_ws RX5 TX5 5
theorem nmX5 : ∀ a, a < 5 → ∀ b, b < 5 → a ≠ b → (TX5 a).2.1 ≠ (TX5 b).2.1 := by decide +kernel
theorem tyX5_ok : ∀ k, k < 5 → parseFieldDescriptor (TX5 k).2.2.1 = some (tyX5 k) := by decide +kernel

def RX6 : String := "FairHouse$Ride"
def TX6 : u_T := fun k => match k with
  | 0 => ("FairHouse$Ride", "index", "I", true)
  | 1 => ("FairHouse$Ride", "queue", "LFairHouse$Queue;", true)
  | 2 => ("FairHouse$Ride", "script", "LFairHouse$Script;", true)
  | 3 => ("FairHouse$Ride", "numbers", "[I", true)
  | 4 => ("FairHouse$Ride", "kind", "I", false)
  | 5 => ("FairHouse$Ride", "abilities", "I", false)
  | 6 => ("FairHouse$Ride", "leader", "LFairHouse$Ride;", false)
  | 7 => ("FairHouse$Ride", "speed", "I", false)
  | 8 => ("FairHouse$Ride", "speedGoal", "I", false)
  | 9 => ("FairHouse$Ride", "height", "I", false)
  | 10 => ("FairHouse$Ride", "heightGoal", "I", false)
  | 11 => ("FairHouse$Ride", "rise", "I", false)
  | 12 => ("FairHouse$Ride", "aboard", "I", false)
  | 13 => ("FairHouse$Ride", "glow", "I", false)
  | 14 => ("FairHouse$Ride", "volume", "I", false)
  | _ => ("FairHouse$Ride", "wear", "I", false)
def tyX6 : Nat → FieldType := fun k => match k with
  | 0 => .int
  | 1 => .object "FairHouse$Queue"
  | 2 => .object "FairHouse$Script"
  | 3 => .array .int
  | 4 => .int
  | 5 => .int
  | 6 => .object "FairHouse$Ride"
  | 7 => .int
  | 8 => .int
  | 9 => .int
  | 10 => .int
  | 11 => .int
  | 12 => .int
  | 13 => .int
  | 14 => .int
  | _ => .int
abbrev wsX60 : List Cond := u_ws RX6 TX6 16
theorem nmX6 : ∀ a, a < 16 → ∀ b, b < 16 → a ≠ b → (TX6 a).2.1 ≠ (TX6 b).2.1 := by decide +kernel
theorem tyX6_ok : ∀ k, k < 16 → parseFieldDescriptor (TX6 k).2.2.1 = some (tyX6 k) := by decide +kernel

def RX7 : String := "FairHouse$Runner"
def TX7 : u_T := fun k => match k with
  | 0 => ("FairHouse$Runner", "fair", "LFairHouse$Fair;", true)
  | _ => ("FairHouse$Runner", "code", "LFairHouse$Code;", true)
def tyX7 : Nat → FieldType := fun k => match k with
  | 0 => .object "FairHouse$Fair"
  | _ => .object "FairHouse$Code"
abbrev wsX70 : List Cond := u_ws RX7 TX7 2
theorem nmX7 : ∀ a, a < 2 → ∀ b, b < 2 → a ≠ b → (TX7 a).2.1 ≠ (TX7 b).2.1 := by decide +kernel
theorem tyX7_ok : ∀ k, k < 2 → parseFieldDescriptor (TX7 k).2.2.1 = some (tyX7 k) := by decide +kernel

def RX8 : String := "FairHouse$Script"
def TX8 : u_T := fun k => match k with
  | 0 => ("FairHouse$Script", "registers", "[I", true)
  | 1 => ("FairHouse$Script", "held", "[I", true)
  | 2 => ("FairHouse$Script", "first", "LFairHouse$Step;", false)
  | 3 => ("FairHouse$Script", "step", "LFairHouse$Step;", false)
  | 4 => ("FairHouse$Script", "begun", "Z", false)
  | 5 => ("FairHouse$Script", "ticksLeft", "I", false)
  | 6 => ("FairHouse$Script", "state", "I", false)
  | 7 => ("FairHouse$Script", "why", "I", false)
  | _ => ("FairHouse$Script", "counted", "I", false)
def tyX8 : Nat → FieldType := fun k => match k with
  | 0 => .array .int
  | 1 => .array .int
  | 2 => .object "FairHouse$Step"
  | 3 => .object "FairHouse$Step"
  | 4 => .boolean
  | 5 => .int
  | 6 => .int
  | 7 => .int
  | _ => .int
abbrev wsX80 : List Cond := u_ws RX8 TX8 9
theorem nmX8 : ∀ a, a < 9 → ∀ b, b < 9 → a ≠ b → (TX8 a).2.1 ≠ (TX8 b).2.1 := by decide +kernel
theorem tyX8_ok : ∀ k, k < 9 → parseFieldDescriptor (TX8 k).2.2.1 = some (tyX8 k) := by decide +kernel

def RX9 : String := "FairHouse$Step"
def TX9 : u_T := fun k => match k with
  | 0 => ("FairHouse$Step", "kind", "I", true)
  | 1 => ("FairHouse$Step", "place", "I", true)
  | 2 => ("FairHouse$Step", "owner", "LFairHouse$Step;", true)
  | 3 => ("FairHouse$Step", "guard", "LFairHouse$Step;", true)
  | 4 => ("FairHouse$Step", "formula", "I", false)
  | 5 => ("FairHouse$Step", "number", "I", false)
  | 6 => ("FairHouse$Step", "turnsLeft", "I", false)
  | 7 => ("FairHouse$Step", "next", "LFairHouse$Step;", false)
  | 8 => ("FairHouse$Step", "first", "LFairHouse$Step;", false)
  | 9 => ("FairHouse$Step", "second", "LFairHouse$Step;", false)
  | _ => ("FairHouse$Step", "again", "LFairHouse$Step;", false)
def tyX9 : Nat → FieldType := fun k => match k with
  | 0 => .int
  | 1 => .int
  | 2 => .object "FairHouse$Step"
  | 3 => .object "FairHouse$Step"
  | 4 => .int
  | 5 => .int
  | 6 => .int
  | 7 => .object "FairHouse$Step"
  | 8 => .object "FairHouse$Step"
  | 9 => .object "FairHouse$Step"
  | _ => .object "FairHouse$Step"
abbrev wsX90 : List Cond := u_ws RX9 TX9 11
theorem nmX9 : ∀ a, a < 11 → ∀ b, b < 11 → a ≠ b → (TX9 a).2.1 ≠ (TX9 b).2.1 := by decide +kernel
theorem tyX9_ok : ∀ k, k < 11 → parseFieldDescriptor (TX9 k).2.2.1 = some (tyX9 k) := by decide +kernel

def RX10 : String := "FairHouse$Text"
def TX10 : u_T := fun k => match k with
  | 0 => ("FairHouse$Text", "bytes", "[B", true)
  | 1 => ("FairHouse$Text", "sorts", "[I", true)
  | 2 => ("FairHouse$Text", "starts", "[I", true)
  | 3 => ("FairHouse$Text", "ends", "[I", true)
  | 4 => ("FairHouse$Text", "length", "I", false)
  | 5 => ("FairHouse$Text", "tokens", "I", false)
  | 6 => ("FairHouse$Text", "at", "I", false)
  | 7 => ("FairHouse$Text", "fault", "I", false)
  | _ => ("FairHouse$Text", "place", "I", false)
def tyX10 : Nat → FieldType := fun k => match k with
  | 0 => .array .byte
  | 1 => .array .int
  | 2 => .array .int
  | 3 => .array .int
  | 4 => .int
  | 5 => .int
  | 6 => .int
  | 7 => .int
  | _ => .int
abbrev wsX100 : List Cond := u_ws RX10 TX10 9
theorem nmX10 : ∀ a, a < 9 → ∀ b, b < 9 → a ≠ b → (TX10 a).2.1 ≠ (TX10 b).2.1 := by decide +kernel
theorem tyX10_ok : ∀ k, k < 9 → parseFieldDescriptor (TX10 k).2.2.1 = some (tyX10 k) := by decide +kernel

def RX11 : String := "FairHouse"
def TX11 : u_T := fun k => match k with
  | 0 => ("FairHouse", "tape", "[B", true)
  | 1 => ("FairHouse", "fair", "LFairHouse$Fair;", true)
  | 2 => ("FairHouse", "reader", "LFairHouse$FairReader;", true)
  | 3 => ("FairHouse", "runner", "LFairHouse$Runner;", true)
  | 4 => ("FairHouse", "tapeBytes", "I", false)
  | 5 => ("FairHouse", "standing", "Z", false)
  | 6 => ("FairHouse", "latestFault", "I", false)
  | _ => ("FairHouse", "latestPlace", "I", false)
def tyX11 : Nat → FieldType := fun k => match k with
  | 0 => .array .byte
  | 1 => .object "FairHouse$Fair"
  | 2 => .object "FairHouse$FairReader"
  | 3 => .object "FairHouse$Runner"
  | 4 => .int
  | 5 => .boolean
  | 6 => .int
  | _ => .int
abbrev wsX110 : List Cond := u_ws RX11 TX11 8
theorem nmX11 : ∀ a, a < 8 → ∀ b, b < 8 → a ≠ b → (TX11 a).2.1 ≠ (TX11 b).2.1 := by decide +kernel
theorem tyX11_ok : ∀ k, k < 8 → parseFieldDescriptor (TX11 k).2.2.1 = some (tyX11 k) := by decide +kernel

def RX12 : String := "FairHouseModel"
def TX12 : u_T := fun k => match k with
  | 0 => ("FairHouseModel", "words", "[Ljava/lang/String;", true)
  | 1 => ("FairHouseModel", "abilities", "[I", true)
  | 2 => ("FairHouseModel", "tape", "[I", true)
  | 3 => ("FairHouseModel", "taped", "I", false)
  | 4 => ("FairHouseModel", "text", "[I", true)
  | 5 => ("FairHouseModel", "size", "I", false)
  | 6 => ("FairHouseModel", "at", "I", false)
  | 7 => ("FairHouseModel", "token", "I", false)
  | 8 => ("FairHouseModel", "begins", "I", false)
  | 9 => ("FairHouseModel", "ends", "I", false)
  | 10 => ("FairHouseModel", "number", "I", false)
  | 11 => ("FairHouseModel", "word", "I", false)
  | 12 => ("FairHouseModel", "fault", "I", false)
  | 13 => ("FairHouseModel", "faultPlace", "I", false)
  | 14 => ("FairHouseModel", "nameSort", "[I", true)
  | 15 => ("FairHouseModel", "nameOf", "[I", true)
  | 16 => ("FairHouseModel", "nameAt", "[I", true)
  | 17 => ("FairHouseModel", "nameLong", "[I", true)
  | 18 => ("FairHouseModel", "names", "I", false)
  | 19 => ("FairHouseModel", "isOpen", "Z", false)
  | 20 => ("FairHouseModel", "rides", "I", false)
  | 21 => ("FairHouseModel", "staff", "I", false)
  | 22 => ("FairHouseModel", "flags", "I", false)
  | 23 => ("FairHouseModel", "power", "I", false)
  | 24 => ("FairHouseModel", "hasPower", "Z", false)
  | 25 => ("FairHouseModel", "kind", "[I", true)
  | 26 => ("FairHouseModel", "leader", "[I", true)
  | 27 => ("FairHouseModel", "mass", "[I", true)
  | 28 => ("FairHouseModel", "accel", "[I", true)
  | 29 => ("FairHouseModel", "load", "[I", true)
  | 30 => ("FairHouseModel", "pace", "[I", true)
  | 31 => ("FairHouseModel", "places", "[I", true)
  | 32 => ("FairHouseModel", "watts", "[I", true)
  | 33 => ("FairHouseModel", "start", "[I", true)
  | 34 => ("FairHouseModel", "staffAll", "[I", true)
  | 35 => ("FairHouseModel", "op", "[I", true)
  | 36 => ("FairHouseModel", "opAt", "[I", true)
  | 37 => ("FairHouseModel", "opA", "[I", true)
  | 38 => ("FairHouseModel", "opB", "[I", true)
  | 39 => ("FairHouseModel", "opC", "[I", true)
  | 40 => ("FairHouseModel", "opGuard", "[I", true)
  | 41 => ("FairHouseModel", "ops", "I", false)
  | 42 => ("FairHouseModel", "code", "[I", true)
  | 43 => ("FairHouseModel", "codeA", "[I", true)
  | 44 => ("FairHouseModel", "codeB", "[I", true)
  | 45 => ("FairHouseModel", "codes", "I", false)
  | 46 => ("FairHouseModel", "askNot", "[I", true)
  | 47 => ("FairHouseModel", "askSign", "[I", true)
  | 48 => ("FairHouseModel", "askA", "[I", true)
  | 49 => ("FairHouseModel", "askB", "[I", true)
  | 50 => ("FairHouseModel", "askNext", "[I", true)
  | 51 => ("FairHouseModel", "asks", "I", false)
  | 52 => ("FairHouseModel", "reads", "I", false)
  | 53 => ("FairHouseModel", "steps", "I", false)
  | 54 => ("FairHouseModel", "loop", "I", false)
  | 55 => ("FairHouseModel", "nested", "I", false)
  | 56 => ("FairHouseModel", "speed", "[I", true)
  | 57 => ("FairHouseModel", "goal", "[I", true)
  | 58 => ("FairHouseModel", "height", "[I", true)
  | 59 => ("FairHouseModel", "lift", "[I", true)
  | 60 => ("FairHouseModel", "moved", "[I", true)
  | 61 => ("FairHouseModel", "aboard", "[I", true)
  | 62 => ("FairHouseModel", "glow", "[I", true)
  | 63 => ("FairHouseModel", "volume", "[I", true)
  | 64 => ("FairHouseModel", "wear", "[I", true)
  | 65 => ("FairHouseModel", "state", "[I", true)
  | 66 => ("FairHouseModel", "why", "[I", true)
  | 67 => ("FairHouseModel", "next", "[I", true)
  | 68 => ("FairHouseModel", "counted", "[I", true)
  | 69 => ("FairHouseModel", "left", "[I", true)
  | 70 => ("FairHouseModel", "begun", "[I", true)
  | 71 => ("FairHouseModel", "register", "[I", true)
  | 72 => ("FairHouseModel", "turns", "[I", true)
  | 73 => ("FairHouseModel", "holds", "[I", true)
  | 74 => ("FairHouseModel", "idle", "[I", true)
  | 75 => ("FairHouseModel", "isUp", "[Z", true)
  | 76 => ("FairHouseModel", "groups", "[I", true)
  | 77 => ("FairHouseModel", "groupSize", "[I", true)
  | 78 => ("FairHouseModel", "groupClock", "[I", true)
  | 79 => ("FairHouseModel", "clock", "I", false)
  | 80 => ("FairHouseModel", "wind", "I", false)
  | 81 => ("FairHouseModel", "served", "I", false)
  | 82 => ("FairHouseModel", "gone", "I", false)
  | 83 => ("FairHouseModel", "waited", "I", false)
  | 84 => ("FairHouseModel", "logged", "I", false)
  | 85 => ("FairHouseModel", "logs", "[I", true)
  | 86 => ("FairHouseModel", "draws", "[I", true)
  | 87 => ("FairHouseModel", "stack", "[I", true)
  | 88 => ("FairHouseModel", "top", "I", false)
  | 89 => ("FairHouseModel", "byZero", "Z", false)
  | _ => ("FairHouseModel", "thrown", "I", false)
def tyX12 : Nat → FieldType := fun k => match k with
  | 0 => .array (.object "java/lang/String")
  | 1 => .array .int
  | 2 => .array .int
  | 3 => .int
  | 4 => .array .int
  | 5 => .int
  | 6 => .int
  | 7 => .int
  | 8 => .int
  | 9 => .int
  | 10 => .int
  | 11 => .int
  | 12 => .int
  | 13 => .int
  | 14 => .array .int
  | 15 => .array .int
  | 16 => .array .int
  | 17 => .array .int
  | 18 => .int
  | 19 => .boolean
  | 20 => .int
  | 21 => .int
  | 22 => .int
  | 23 => .int
  | 24 => .boolean
  | 25 => .array .int
  | 26 => .array .int
  | 27 => .array .int
  | 28 => .array .int
  | 29 => .array .int
  | 30 => .array .int
  | 31 => .array .int
  | 32 => .array .int
  | 33 => .array .int
  | 34 => .array .int
  | 35 => .array .int
  | 36 => .array .int
  | 37 => .array .int
  | 38 => .array .int
  | 39 => .array .int
  | 40 => .array .int
  | 41 => .int
  | 42 => .array .int
  | 43 => .array .int
  | 44 => .array .int
  | 45 => .int
  | 46 => .array .int
  | 47 => .array .int
  | 48 => .array .int
  | 49 => .array .int
  | 50 => .array .int
  | 51 => .int
  | 52 => .int
  | 53 => .int
  | 54 => .int
  | 55 => .int
  | 56 => .array .int
  | 57 => .array .int
  | 58 => .array .int
  | 59 => .array .int
  | 60 => .array .int
  | 61 => .array .int
  | 62 => .array .int
  | 63 => .array .int
  | 64 => .array .int
  | 65 => .array .int
  | 66 => .array .int
  | 67 => .array .int
  | 68 => .array .int
  | 69 => .array .int
  | 70 => .array .int
  | 71 => .array .int
  | 72 => .array .int
  | 73 => .array .int
  | 74 => .array .int
  | 75 => .array .boolean
  | 76 => .array .int
  | 77 => .array .int
  | 78 => .array .int
  | 79 => .int
  | 80 => .int
  | 81 => .int
  | 82 => .int
  | 83 => .int
  | 84 => .int
  | 85 => .array .int
  | 86 => .array .int
  | 87 => .array .int
  | 88 => .int
  | 89 => .boolean
  | _ => .int
abbrev wsX120 : List Cond := u_ws RX12 TX12 91
theorem nmX12 : ∀ a, a < 91 → ∀ b, b < 91 → a ≠ b → (TX12 a).2.1 ≠ (TX12 b).2.1 := by decide +kernel
theorem tyX12_ok : ∀ k, k < 91 → parseFieldDescriptor (TX12 k).2.2.1 = some (tyX12 k) := by decide +kernel

abbrev vwCl : List vw_C := [(RX0, TX0, 6), (RX1, TX1, 15), (RX2, TX2, 7), (RX3, TX3, 3), (RX4, TX4, 5), (RX5, TX5, 5), (RX6, TX6, 16), (RX7, TX7, 2), (RX8, TX8, 9), (RX9, TX9, 11), (RX10, TX10, 9), (RX11, TX11, 8), (RX12, TX12, 91)]
