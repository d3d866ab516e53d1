-- ===== PART A: goes FIRST, ahead of the names: the tables' words, and 'selects' of the private methods out of them =====
/-- a private method of a class that the tables say can be made, by its rows of tables_1 -/
def lw_okq (q : MethodName × Nat) : Prop := (q.1.cls ≠ "java/lang/invoke/MethodHandle" ∧ q.1.cls ≠ "java/lang/invoke/VarHandle") ∧ Cond.instantiable q.1.cls q.2 ∈ tables_1 ∧ Cond.privateMethod q.1 ∈ tables_1 ∧ Cond.instanceMethod q.1 ∈ tables_1
theorem lw_p0 : lw_okq (⟨"PractisedWrong", "nothingToMend", "(II)Z"⟩, 11) := ⟨⟨by decide +kernel, by decide +kernel⟩, List.mem_of_getElem? (i := 15) (by decide +kernel), List.mem_of_getElem? (i := 347) (by decide +kernel), List.mem_of_getElem? (i := 348) (by decide +kernel)⟩
theorem lw_p1 : lw_okq (⟨"PractisedWrong", "noBar", "(I)Z"⟩, 11) := ⟨⟨by decide +kernel, by decide +kernel⟩, List.mem_of_getElem? (i := 15) (by decide +kernel), List.mem_of_getElem? (i := 353) (by decide +kernel), List.mem_of_getElem? (i := 354) (by decide +kernel)⟩
theorem lw_p2 : lw_okq (⟨"PractisedWrong", "read", "(II)I"⟩, 11) := ⟨⟨by decide +kernel, by decide +kernel⟩, List.mem_of_getElem? (i := 15) (by decide +kernel), List.mem_of_getElem? (i := 357) (by decide +kernel), List.mem_of_getElem? (i := 358) (by decide +kernel)⟩
theorem lw_p3 : lw_okq (⟨"PractisedWrong", "write", "(III)V"⟩, 11) := ⟨⟨by decide +kernel, by decide +kernel⟩, List.mem_of_getElem? (i := 15) (by decide +kernel), List.mem_of_getElem? (i := 361) (by decide +kernel), List.mem_of_getElem? (i := 362) (by decide +kernel)⟩
theorem lw_p4 : lw_okq (⟨"PractisedWrong$Changes", "forgetOldest", "()V"⟩, 6) := ⟨⟨by decide +kernel, by decide +kernel⟩, List.mem_of_getElem? (i := 189) (by decide +kernel), List.mem_of_getElem? (i := 369) (by decide +kernel), List.mem_of_getElem? (i := 370) (by decide +kernel)⟩
theorem lw_p5 : lw_okq (⟨"PractisedWrong$Law", "readLines", "()Z"⟩, 9) := ⟨⟨by decide +kernel, by decide +kernel⟩, List.mem_of_getElem? (i := 72) (by decide +kernel), List.mem_of_getElem? (i := 396) (by decide +kernel), List.mem_of_getElem? (i := 397) (by decide +kernel)⟩
theorem lw_p6 : lw_okq (⟨"PractisedWrong$Law", "readLine", "()Z"⟩, 9) := ⟨⟨by decide +kernel, by decide +kernel⟩, List.mem_of_getElem? (i := 72) (by decide +kernel), List.mem_of_getElem? (i := 400) (by decide +kernel), List.mem_of_getElem? (i := 401) (by decide +kernel)⟩
theorem lw_p7 : lw_okq (⟨"PractisedWrong$Law", "readLevel", "(II)Z"⟩, 9) := ⟨⟨by decide +kernel, by decide +kernel⟩, List.mem_of_getElem? (i := 72) (by decide +kernel), List.mem_of_getElem? (i := 404) (by decide +kernel), List.mem_of_getElem? (i := 405) (by decide +kernel)⟩
theorem lw_p8 : lw_okq (⟨"PractisedWrong$Law", "readOperand", "(I)Z"⟩, 9) := ⟨⟨by decide +kernel, by decide +kernel⟩, List.mem_of_getElem? (i := 72) (by decide +kernel), List.mem_of_getElem? (i := 408) (by decide +kernel), List.mem_of_getElem? (i := 409) (by decide +kernel)⟩
theorem lw_p9 : lw_okq (⟨"PractisedWrong$Law", "peek", "()I"⟩, 9) := ⟨⟨by decide +kernel, by decide +kernel⟩, List.mem_of_getElem? (i := 72) (by decide +kernel), List.mem_of_getElem? (i := 412) (by decide +kernel), List.mem_of_getElem? (i := 413) (by decide +kernel)⟩
theorem lw_p10 : lw_okq (⟨"PractisedWrong$Law", "readNumber", "()V"⟩, 9) := ⟨⟨by decide +kernel, by decide +kernel⟩, List.mem_of_getElem? (i := 72) (by decide +kernel), List.mem_of_getElem? (i := 419) (by decide +kernel), List.mem_of_getElem? (i := 420) (by decide +kernel)⟩
theorem lw_p11 : lw_okq (⟨"PractisedWrong$Law", "emit", "(I)V"⟩, 9) := ⟨⟨by decide +kernel, by decide +kernel⟩, List.mem_of_getElem? (i := 72) (by decide +kernel), List.mem_of_getElem? (i := 423) (by decide +kernel), List.mem_of_getElem? (i := 424) (by decide +kernel)⟩
theorem lw_p12 : lw_okq (⟨"PractisedWrong$Law", "readBracket", "(I)Z"⟩, 9) := ⟨⟨by decide +kernel, by decide +kernel⟩, List.mem_of_getElem? (i := 72) (by decide +kernel), List.mem_of_getElem? (i := 430) (by decide +kernel), List.mem_of_getElem? (i := 431) (by decide +kernel)⟩
theorem lw_p13 : lw_okq (⟨"PractisedWrong", "refusalOfBytes", "(I)I"⟩, 11) := ⟨⟨by decide +kernel, by decide +kernel⟩, List.mem_of_getElem? (i := 15) (by decide +kernel), List.mem_of_getElem? (i := 474) (by decide +kernel), List.mem_of_getElem? (i := 475) (by decide +kernel)⟩
theorem lw_p14 : lw_okq (⟨"PractisedWrong$Hands", "takeFingers", "(ILPractisedWrong$Hands;I)V"⟩, 6) := ⟨⟨by decide +kernel, by decide +kernel⟩, List.mem_of_getElem? (i := 29) (by decide +kernel), List.mem_of_getElem? (i := 490) (by decide +kernel), List.mem_of_getElem? (i := 491) (by decide +kernel)⟩
theorem lw_p15 : lw_okq (⟨"PractisedWrong$Planner", "tillRight", "(LPractisedWrong$Practice;II)I"⟩, 10) := ⟨⟨by decide +kernel, by decide +kernel⟩, List.mem_of_getElem? (i := 133) (by decide +kernel), List.mem_of_getElem? (i := 571) (by decide +kernel), List.mem_of_getElem? (i := 572) (by decide +kernel)⟩
def lw_privs_1 : List (MethodName × Nat) := [(⟨"PractisedWrong", "nothingToMend", "(II)Z"⟩, 11), (⟨"PractisedWrong", "noBar", "(I)Z"⟩, 11), (⟨"PractisedWrong", "read", "(II)I"⟩, 11), (⟨"PractisedWrong", "write", "(III)V"⟩, 11), (⟨"PractisedWrong$Changes", "forgetOldest", "()V"⟩, 6), (⟨"PractisedWrong$Law", "readLines", "()Z"⟩, 9), (⟨"PractisedWrong$Law", "readLine", "()Z"⟩, 9), (⟨"PractisedWrong$Law", "readLevel", "(II)Z"⟩, 9), (⟨"PractisedWrong$Law", "readOperand", "(I)Z"⟩, 9), (⟨"PractisedWrong$Law", "peek", "()I"⟩, 9), (⟨"PractisedWrong$Law", "readNumber", "()V"⟩, 9), (⟨"PractisedWrong$Law", "emit", "(I)V"⟩, 9), (⟨"PractisedWrong$Law", "readBracket", "(I)Z"⟩, 9), (⟨"PractisedWrong", "refusalOfBytes", "(I)I"⟩, 11), (⟨"PractisedWrong$Hands", "takeFingers", "(ILPractisedWrong$Hands;I)V"⟩, 6), (⟨"PractisedWrong$Planner", "tillRight", "(LPractisedWrong$Practice;II)I"⟩, 10)]
theorem lw_r1 : ∀ q ∈ lw_privs_1, lw_okq q := List.forall_mem_cons.mpr ⟨lw_p0, List.forall_mem_cons.mpr ⟨lw_p1, List.forall_mem_cons.mpr ⟨lw_p2, List.forall_mem_cons.mpr ⟨lw_p3, List.forall_mem_cons.mpr ⟨lw_p4, List.forall_mem_cons.mpr ⟨lw_p5, List.forall_mem_cons.mpr ⟨lw_p6, List.forall_mem_cons.mpr ⟨lw_p7, List.forall_mem_cons.mpr ⟨lw_p8, List.forall_mem_cons.mpr ⟨lw_p9, List.forall_mem_cons.mpr ⟨lw_p10, List.forall_mem_cons.mpr ⟨lw_p11, List.forall_mem_cons.mpr ⟨lw_p12, List.forall_mem_cons.mpr ⟨lw_p13, List.forall_mem_cons.mpr ⟨lw_p14, List.forall_mem_cons.mpr ⟨lw_p15, fun _ h => absurd h List.not_mem_nil⟩⟩⟩⟩⟩⟩⟩⟩⟩⟩⟩⟩⟩⟩⟩⟩
theorem lw_p16 : lw_okq (⟨"PractisedWrong$Planner", "playingsForMorning", "(LPractisedWrong$Practice;I)I"⟩, 10) := ⟨⟨by decide +kernel, by decide +kernel⟩, List.mem_of_getElem? (i := 133) (by decide +kernel), List.mem_of_getElem? (i := 594) (by decide +kernel), List.mem_of_getElem? (i := 595) (by decide +kernel)⟩
theorem lw_p17 : lw_okq (⟨"PractisedWrong$Planner", "cheapestLeft", "(I)I"⟩, 10) := ⟨⟨by decide +kernel, by decide +kernel⟩, List.mem_of_getElem? (i := 133) (by decide +kernel), List.mem_of_getElem? (i := 600) (by decide +kernel), List.mem_of_getElem? (i := 601) (by decide +kernel)⟩
theorem lw_p18 : lw_okq (⟨"PractisedWrong$Planner", "tryDay", "(LPractisedWrong$Practice;II)V"⟩, 10) := ⟨⟨by decide +kernel, by decide +kernel⟩, List.mem_of_getElem? (i := 133) (by decide +kernel), List.mem_of_getElem? (i := 614) (by decide +kernel), List.mem_of_getElem? (i := 615) (by decide +kernel)⟩
theorem lw_p19 : lw_okq (⟨"PractisedWrong$Planner", "weigh", "(I)V"⟩, 10) := ⟨⟨by decide +kernel, by decide +kernel⟩, List.mem_of_getElem? (i := 133) (by decide +kernel), List.mem_of_getElem? (i := 618) (by decide +kernel), List.mem_of_getElem? (i := 619) (by decide +kernel)⟩
theorem lw_p20 : lw_okq (⟨"PractisedWrong$Planner", "isLater", "()Z"⟩, 10) := ⟨⟨by decide +kernel, by decide +kernel⟩, List.mem_of_getElem? (i := 133) (by decide +kernel), List.mem_of_getElem? (i := 622) (by decide +kernel), List.mem_of_getElem? (i := 623) (by decide +kernel)⟩
theorem lw_p21 : lw_okq (⟨"PractisedWrong$Planner", "runThrough", "(LPractisedWrong$Practice;)V"⟩, 10) := ⟨⟨by decide +kernel, by decide +kernel⟩, List.mem_of_getElem? (i := 133) (by decide +kernel), List.mem_of_getElem? (i := 658) (by decide +kernel), List.mem_of_getElem? (i := 659) (by decide +kernel)⟩
theorem lw_p22 : lw_okq (⟨"PractisedWrong$Ear", "unlikeFromThought", "(LPractisedWrong$Practice;LPractisedWrong$Shelf;I)I"⟩, 1) := ⟨⟨by decide +kernel, by decide +kernel⟩, List.mem_of_getElem? (i := 178) (by decide +kernel), List.mem_of_getElem? (i := 690) (by decide +kernel), List.mem_of_getElem? (i := 691) (by decide +kernel)⟩
theorem lw_p23 : lw_okq (⟨"PractisedWrong$Ear", "mayHaveBeen", "(LPractisedWrong$Practice;ILPractisedWrong$Shelf;)Z"⟩, 1) := ⟨⟨by decide +kernel, by decide +kernel⟩, List.mem_of_getElem? (i := 178) (by decide +kernel), List.mem_of_getElem? (i := 723) (by decide +kernel), List.mem_of_getElem? (i := 724) (by decide +kernel)⟩
theorem lw_p24 : lw_okq (⟨"PractisedWrong$Bodies", "run", "(IIII)I"⟩, 5) := ⟨⟨by decide +kernel, by decide +kernel⟩, List.mem_of_getElem? (i := 220) (by decide +kernel), List.mem_of_getElem? (i := 820) (by decide +kernel), List.mem_of_getElem? (i := 821) (by decide +kernel)⟩
theorem lw_p25 : lw_okq (⟨"PractisedWrong$Bodies", "note", "(I)V"⟩, 5) := ⟨⟨by decide +kernel, by decide +kernel⟩, List.mem_of_getElem? (i := 220) (by decide +kernel), List.mem_of_getElem? (i := 831) (by decide +kernel), List.mem_of_getElem? (i := 832) (by decide +kernel)⟩
theorem lw_p26 : lw_okq (⟨"PractisedWrong$Shelf", "lowestBits", "(J)J"⟩, 4) := ⟨⟨by decide +kernel, by decide +kernel⟩, List.mem_of_getElem? (i := 247) (by decide +kernel), List.mem_of_getElem? (i := 873) (by decide +kernel), List.mem_of_getElem? (i := 874) (by decide +kernel)⟩
theorem lw_p27 : lw_okq (⟨"PractisedWrongModel", "adds", "(II)V"⟩, 52) := ⟨⟨by decide +kernel, by decide +kernel⟩, List.mem_of_getElem? (i := 898) (by decide +kernel), List.mem_of_getElem? (i := 1081) (by decide +kernel), List.mem_of_getElem? (i := 1082) (by decide +kernel)⟩
theorem lw_p28 : lw_okq (⟨"PractisedWrongModel", "placeOf", "(II)I"⟩, 52) := ⟨⟨by decide +kernel, by decide +kernel⟩, List.mem_of_getElem? (i := 898) (by decide +kernel), List.mem_of_getElem? (i := 1098) (by decide +kernel), List.mem_of_getElem? (i := 1099) (by decide +kernel)⟩
theorem lw_p29 : lw_okq (⟨"PractisedWrongModel", "isBar", "(J)Z"⟩, 52) := ⟨⟨by decide +kernel, by decide +kernel⟩, List.mem_of_getElem? (i := 898) (by decide +kernel), List.mem_of_getElem? (i := 1103) (by decide +kernel), List.mem_of_getElem? (i := 1104) (by decide +kernel)⟩
theorem lw_p30 : lw_okq (⟨"PractisedWrongModel", "becomes", "(II)I"⟩, 52) := ⟨⟨by decide +kernel, by decide +kernel⟩, List.mem_of_getElem? (i := 898) (by decide +kernel), List.mem_of_getElem? (i := 1112) (by decide +kernel), List.mem_of_getElem? (i := 1113) (by decide +kernel)⟩
theorem lw_p31 : lw_okq (⟨"PractisedWrongModel", "workOut", "(II)I"⟩, 52) := ⟨⟨by decide +kernel, by decide +kernel⟩, List.mem_of_getElem? (i := 898) (by decide +kernel), List.mem_of_getElem? (i := 1129) (by decide +kernel), List.mem_of_getElem? (i := 1130) (by decide +kernel)⟩
def lw_privs_2 : List (MethodName × Nat) := [(⟨"PractisedWrong$Planner", "playingsForMorning", "(LPractisedWrong$Practice;I)I"⟩, 10), (⟨"PractisedWrong$Planner", "cheapestLeft", "(I)I"⟩, 10), (⟨"PractisedWrong$Planner", "tryDay", "(LPractisedWrong$Practice;II)V"⟩, 10), (⟨"PractisedWrong$Planner", "weigh", "(I)V"⟩, 10), (⟨"PractisedWrong$Planner", "isLater", "()Z"⟩, 10), (⟨"PractisedWrong$Planner", "runThrough", "(LPractisedWrong$Practice;)V"⟩, 10), (⟨"PractisedWrong$Ear", "unlikeFromThought", "(LPractisedWrong$Practice;LPractisedWrong$Shelf;I)I"⟩, 1), (⟨"PractisedWrong$Ear", "mayHaveBeen", "(LPractisedWrong$Practice;ILPractisedWrong$Shelf;)Z"⟩, 1), (⟨"PractisedWrong$Bodies", "run", "(IIII)I"⟩, 5), (⟨"PractisedWrong$Bodies", "note", "(I)V"⟩, 5), (⟨"PractisedWrong$Shelf", "lowestBits", "(J)J"⟩, 4), (⟨"PractisedWrongModel", "adds", "(II)V"⟩, 52), (⟨"PractisedWrongModel", "placeOf", "(II)I"⟩, 52), (⟨"PractisedWrongModel", "isBar", "(J)Z"⟩, 52), (⟨"PractisedWrongModel", "becomes", "(II)I"⟩, 52), (⟨"PractisedWrongModel", "workOut", "(II)I"⟩, 52)]
theorem lw_r2 : ∀ q ∈ lw_privs_2, lw_okq q := List.forall_mem_cons.mpr ⟨lw_p16, List.forall_mem_cons.mpr ⟨lw_p17, List.forall_mem_cons.mpr ⟨lw_p18, List.forall_mem_cons.mpr ⟨lw_p19, List.forall_mem_cons.mpr ⟨lw_p20, List.forall_mem_cons.mpr ⟨lw_p21, List.forall_mem_cons.mpr ⟨lw_p22, List.forall_mem_cons.mpr ⟨lw_p23, List.forall_mem_cons.mpr ⟨lw_p24, List.forall_mem_cons.mpr ⟨lw_p25, List.forall_mem_cons.mpr ⟨lw_p26, List.forall_mem_cons.mpr ⟨lw_p27, List.forall_mem_cons.mpr ⟨lw_p28, List.forall_mem_cons.mpr ⟨lw_p29, List.forall_mem_cons.mpr ⟨lw_p30, List.forall_mem_cons.mpr ⟨lw_p31, fun _ h => absurd h List.not_mem_nil⟩⟩⟩⟩⟩⟩⟩⟩⟩⟩⟩⟩⟩⟩⟩⟩
theorem lw_p32 : lw_okq (⟨"PractisedWrongModel", "either", "()I"⟩, 52) := ⟨⟨by decide +kernel, by decide +kernel⟩, List.mem_of_getElem? (i := 898) (by decide +kernel), List.mem_of_getElem? (i := 1133) (by decide +kernel), List.mem_of_getElem? (i := 1134) (by decide +kernel)⟩
theorem lw_p33 : lw_okq (⟨"PractisedWrongModel", "both", "()I"⟩, 52) := ⟨⟨by decide +kernel, by decide +kernel⟩, List.mem_of_getElem? (i := 898) (by decide +kernel), List.mem_of_getElem? (i := 1137) (by decide +kernel), List.mem_of_getElem? (i := 1138) (by decide +kernel)⟩
theorem lw_p34 : lw_okq (⟨"PractisedWrongModel", "compared", "()I"⟩, 52) := ⟨⟨by decide +kernel, by decide +kernel⟩, List.mem_of_getElem? (i := 898) (by decide +kernel), List.mem_of_getElem? (i := 1141) (by decide +kernel), List.mem_of_getElem? (i := 1142) (by decide +kernel)⟩
theorem lw_p35 : lw_okq (⟨"PractisedWrongModel", "sums", "()I"⟩, 52) := ⟨⟨by decide +kernel, by decide +kernel⟩, List.mem_of_getElem? (i := 898) (by decide +kernel), List.mem_of_getElem? (i := 1145) (by decide +kernel), List.mem_of_getElem? (i := 1146) (by decide +kernel)⟩
theorem lw_p36 : lw_okq (⟨"PractisedWrongModel", "product", "()I"⟩, 52) := ⟨⟨by decide +kernel, by decide +kernel⟩, List.mem_of_getElem? (i := 898) (by decide +kernel), List.mem_of_getElem? (i := 1149) (by decide +kernel), List.mem_of_getElem? (i := 1150) (by decide +kernel)⟩
theorem lw_p37 : lw_okq (⟨"PractisedWrongModel", "one", "()I"⟩, 52) := ⟨⟨by decide +kernel, by decide +kernel⟩, List.mem_of_getElem? (i := 898) (by decide +kernel), List.mem_of_getElem? (i := 1153) (by decide +kernel), List.mem_of_getElem? (i := 1154) (by decide +kernel)⟩
theorem lw_p38 : lw_okq (⟨"PractisedWrongModel", "byteAt", "()I"⟩, 52) := ⟨⟨by decide +kernel, by decide +kernel⟩, List.mem_of_getElem? (i := 898) (by decide +kernel), List.mem_of_getElem? (i := 1157) (by decide +kernel), List.mem_of_getElem? (i := 1158) (by decide +kernel)⟩
theorem lw_p39 : lw_okq (⟨"PractisedWrongModel", "wrongAt", "()I"⟩, 52) := ⟨⟨by decide +kernel, by decide +kernel⟩, List.mem_of_getElem? (i := 898) (by decide +kernel), List.mem_of_getElem? (i := 1161) (by decide +kernel), List.mem_of_getElem? (i := 1162) (by decide +kernel)⟩
theorem lw_p40 : lw_okq (⟨"PractisedWrongModel", "takes", "(I)Z"⟩, 52) := ⟨⟨by decide +kernel, by decide +kernel⟩, List.mem_of_getElem? (i := 898) (by decide +kernel), List.mem_of_getElem? (i := 1165) (by decide +kernel), List.mem_of_getElem? (i := 1166) (by decide +kernel)⟩
theorem lw_p41 : lw_okq (⟨"PractisedWrongModel", "begins1", "()V"⟩, 52) := ⟨⟨by decide +kernel, by decide +kernel⟩, List.mem_of_getElem? (i := 898) (by decide +kernel), List.mem_of_getElem? (i := 1176) (by decide +kernel), List.mem_of_getElem? (i := 1177) (by decide +kernel)⟩
theorem lw_p42 : lw_okq (⟨"PractisedWrongModel", "beginsBar", "(I)V"⟩, 52) := ⟨⟨by decide +kernel, by decide +kernel⟩, List.mem_of_getElem? (i := 898) (by decide +kernel), List.mem_of_getElem? (i := 1180) (by decide +kernel), List.mem_of_getElem? (i := 1181) (by decide +kernel)⟩
theorem lw_p43 : lw_okq (⟨"PractisedWrongModel", "comesRight", "(II)Z"⟩, 52) := ⟨⟨by decide +kernel, by decide +kernel⟩, List.mem_of_getElem? (i := 898) (by decide +kernel), List.mem_of_getElem? (i := 1184) (by decide +kernel), List.mem_of_getElem? (i := 1185) (by decide +kernel)⟩
theorem lw_p44 : lw_okq (⟨"PractisedWrongModel", "addsFor", "(IIZ)I"⟩, 52) := ⟨⟨by decide +kernel, by decide +kernel⟩, List.mem_of_getElem? (i := 898) (by decide +kernel), List.mem_of_getElem? (i := 1188) (by decide +kernel), List.mem_of_getElem? (i := 1189) (by decide +kernel)⟩
theorem lw_p45 : lw_okq (⟨"PractisedWrongModel", "bytesIs", "(I)I"⟩, 52) := ⟨⟨by decide +kernel, by decide +kernel⟩, List.mem_of_getElem? (i := 898) (by decide +kernel), List.mem_of_getElem? (i := 1196) (by decide +kernel), List.mem_of_getElem? (i := 1197) (by decide +kernel)⟩
theorem lw_p46 : lw_okq (⟨"PractisedWrongModel", "planMany", "(I)I"⟩, 52) := ⟨⟨by decide +kernel, by decide +kernel⟩, List.mem_of_getElem? (i := 898) (by decide +kernel), List.mem_of_getElem? (i := 1200) (by decide +kernel), List.mem_of_getElem? (i := 1201) (by decide +kernel)⟩
theorem lw_p47 : lw_okq (⟨"PractisedWrongModel", "itemAt", "(II)J"⟩, 52) := ⟨⟨by decide +kernel, by decide +kernel⟩, List.mem_of_getElem? (i := 898) (by decide +kernel), List.mem_of_getElem? (i := 1204) (by decide +kernel), List.mem_of_getElem? (i := 1205) (by decide +kernel)⟩
def lw_privs_3 : List (MethodName × Nat) := [(⟨"PractisedWrongModel", "either", "()I"⟩, 52), (⟨"PractisedWrongModel", "both", "()I"⟩, 52), (⟨"PractisedWrongModel", "compared", "()I"⟩, 52), (⟨"PractisedWrongModel", "sums", "()I"⟩, 52), (⟨"PractisedWrongModel", "product", "()I"⟩, 52), (⟨"PractisedWrongModel", "one", "()I"⟩, 52), (⟨"PractisedWrongModel", "byteAt", "()I"⟩, 52), (⟨"PractisedWrongModel", "wrongAt", "()I"⟩, 52), (⟨"PractisedWrongModel", "takes", "(I)Z"⟩, 52), (⟨"PractisedWrongModel", "begins1", "()V"⟩, 52), (⟨"PractisedWrongModel", "beginsBar", "(I)V"⟩, 52), (⟨"PractisedWrongModel", "comesRight", "(II)Z"⟩, 52), (⟨"PractisedWrongModel", "addsFor", "(IIZ)I"⟩, 52), (⟨"PractisedWrongModel", "bytesIs", "(I)I"⟩, 52), (⟨"PractisedWrongModel", "planMany", "(I)I"⟩, 52), (⟨"PractisedWrongModel", "itemAt", "(II)J"⟩, 52)]
theorem lw_r3 : ∀ q ∈ lw_privs_3, lw_okq q := List.forall_mem_cons.mpr ⟨lw_p32, List.forall_mem_cons.mpr ⟨lw_p33, List.forall_mem_cons.mpr ⟨lw_p34, List.forall_mem_cons.mpr ⟨lw_p35, List.forall_mem_cons.mpr ⟨lw_p36, List.forall_mem_cons.mpr ⟨lw_p37, List.forall_mem_cons.mpr ⟨lw_p38, List.forall_mem_cons.mpr ⟨lw_p39, List.forall_mem_cons.mpr ⟨lw_p40, List.forall_mem_cons.mpr ⟨lw_p41, List.forall_mem_cons.mpr ⟨lw_p42, List.forall_mem_cons.mpr ⟨lw_p43, List.forall_mem_cons.mpr ⟨lw_p44, List.forall_mem_cons.mpr ⟨lw_p45, List.forall_mem_cons.mpr ⟨lw_p46, List.forall_mem_cons.mpr ⟨lw_p47, fun _ h => absurd h List.not_mem_nil⟩⟩⟩⟩⟩⟩⟩⟩⟩⟩⟩⟩⟩⟩⟩⟩
theorem lw_p48 : lw_okq (⟨"PractisedWrongModel", "isPlan", "(J)Z"⟩, 52) := ⟨⟨by decide +kernel, by decide +kernel⟩, List.mem_of_getElem? (i := 898) (by decide +kernel), List.mem_of_getElem? (i := 1208) (by decide +kernel), List.mem_of_getElem? (i := 1209) (by decide +kernel)⟩
theorem lw_p49 : lw_okq (⟨"PractisedWrongModel", "doesPlan", "(II)I"⟩, 52) := ⟨⟨by decide +kernel, by decide +kernel⟩, List.mem_of_getElem? (i := 898) (by decide +kernel), List.mem_of_getElem? (i := 1214) (by decide +kernel), List.mem_of_getElem? (i := 1215) (by decide +kernel)⟩
theorem lw_p50 : lw_okq (⟨"PractisedWrongModel", "does", "(I)I"⟩, 52) := ⟨⟨by decide +kernel, by decide +kernel⟩, List.mem_of_getElem? (i := 898) (by decide +kernel), List.mem_of_getElem? (i := 1218) (by decide +kernel), List.mem_of_getElem? (i := 1219) (by decide +kernel)⟩
theorem lw_p51 : lw_okq (⟨"PractisedWrongModel", "nightOf", "(I)V"⟩, 52) := ⟨⟨by decide +kernel, by decide +kernel⟩, List.mem_of_getElem? (i := 898) (by decide +kernel), List.mem_of_getElem? (i := 1222) (by decide +kernel), List.mem_of_getElem? (i := 1223) (by decide +kernel)⟩
theorem lw_p52 : lw_okq (⟨"PractisedWrongModel", "plays", "(II)Z"⟩, 52) := ⟨⟨by decide +kernel, by decide +kernel⟩, List.mem_of_getElem? (i := 898) (by decide +kernel), List.mem_of_getElem? (i := 1226) (by decide +kernel), List.mem_of_getElem? (i := 1227) (by decide +kernel)⟩
theorem lw_p53 : lw_okq (⟨"PractisedWrongModel", "gains", "(IZI)V"⟩, 52) := ⟨⟨by decide +kernel, by decide +kernel⟩, List.mem_of_getElem? (i := 898) (by decide +kernel), List.mem_of_getElem? (i := 1230) (by decide +kernel), List.mem_of_getElem? (i := 1231) (by decide +kernel)⟩
theorem lw_p54 : lw_okq (⟨"PractisedWrongModel", "rightSet", "()I"⟩, 52) := ⟨⟨by decide +kernel, by decide +kernel⟩, List.mem_of_getElem? (i := 898) (by decide +kernel), List.mem_of_getElem? (i := 1243) (by decide +kernel), List.mem_of_getElem? (i := 1244) (by decide +kernel)⟩
theorem lw_p55 : lw_okq (⟨"PractisedWrongModel", "isRight", "(I)Z"⟩, 52) := ⟨⟨by decide +kernel, by decide +kernel⟩, List.mem_of_getElem? (i := 898) (by decide +kernel), List.mem_of_getElem? (i := 1247) (by decide +kernel), List.mem_of_getElem? (i := 1248) (by decide +kernel)⟩
theorem lw_p56 : lw_okq (⟨"PractisedWrongModel", "slip", "()I"⟩, 52) := ⟨⟨by decide +kernel, by decide +kernel⟩, List.mem_of_getElem? (i := 898) (by decide +kernel), List.mem_of_getElem? (i := 1254) (by decide +kernel), List.mem_of_getElem? (i := 1255) (by decide +kernel)⟩
theorem lw_p57 : lw_okq (⟨"PractisedWrongModel", "timesOf", "(II)I"⟩, 52) := ⟨⟨by decide +kernel, by decide +kernel⟩, List.mem_of_getElem? (i := 898) (by decide +kernel), List.mem_of_getElem? (i := 1262) (by decide +kernel), List.mem_of_getElem? (i := 1263) (by decide +kernel)⟩
theorem lw_p58 : lw_okq (⟨"PractisedWrongModel", "findsFewest", "()V"⟩, 52) := ⟨⟨by decide +kernel, by decide +kernel⟩, List.mem_of_getElem? (i := 898) (by decide +kernel), List.mem_of_getElem? (i := 1274) (by decide +kernel), List.mem_of_getElem? (i := 1275) (by decide +kernel)⟩
theorem lw_p59 : lw_okq (⟨"PractisedWrongModel", "takes1", "(I)I"⟩, 52) := ⟨⟨by decide +kernel, by decide +kernel⟩, List.mem_of_getElem? (i := 898) (by decide +kernel), List.mem_of_getElem? (i := 1278) (by decide +kernel), List.mem_of_getElem? (i := 1279) (by decide +kernel)⟩
theorem lw_p60 : lw_okq (⟨"PractisedWrongModel", "spreads", "(IIII)V"⟩, 52) := ⟨⟨by decide +kernel, by decide +kernel⟩, List.mem_of_getElem? (i := 898) (by decide +kernel), List.mem_of_getElem? (i := 1291) (by decide +kernel), List.mem_of_getElem? (i := 1292) (by decide +kernel)⟩
theorem lw_p61 : lw_okq (⟨"PractisedWrongModel", "firstFalse", "(I)I"⟩, 52) := ⟨⟨by decide +kernel, by decide +kernel⟩, List.mem_of_getElem? (i := 898) (by decide +kernel), List.mem_of_getElem? (i := 1324) (by decide +kernel), List.mem_of_getElem? (i := 1325) (by decide +kernel)⟩
theorem lw_p62 : lw_okq (⟨"PractisedWrongModel", "mayBe", "(II)Z"⟩, 52) := ⟨⟨by decide +kernel, by decide +kernel⟩, List.mem_of_getElem? (i := 898) (by decide +kernel), List.mem_of_getElem? (i := 1340) (by decide +kernel), List.mem_of_getElem? (i := 1341) (by decide +kernel)⟩
theorem lw_p63 : lw_okq (⟨"PractisedWrongModel", "keeps", "(II)V"⟩, 52) := ⟨⟨by decide +kernel, by decide +kernel⟩, List.mem_of_getElem? (i := 898) (by decide +kernel), List.mem_of_getElem? (i := 1349) (by decide +kernel), List.mem_of_getElem? (i := 1350) (by decide +kernel)⟩
def lw_privs_4 : List (MethodName × Nat) := [(⟨"PractisedWrongModel", "isPlan", "(J)Z"⟩, 52), (⟨"PractisedWrongModel", "doesPlan", "(II)I"⟩, 52), (⟨"PractisedWrongModel", "does", "(I)I"⟩, 52), (⟨"PractisedWrongModel", "nightOf", "(I)V"⟩, 52), (⟨"PractisedWrongModel", "plays", "(II)Z"⟩, 52), (⟨"PractisedWrongModel", "gains", "(IZI)V"⟩, 52), (⟨"PractisedWrongModel", "rightSet", "()I"⟩, 52), (⟨"PractisedWrongModel", "isRight", "(I)Z"⟩, 52), (⟨"PractisedWrongModel", "slip", "()I"⟩, 52), (⟨"PractisedWrongModel", "timesOf", "(II)I"⟩, 52), (⟨"PractisedWrongModel", "findsFewest", "()V"⟩, 52), (⟨"PractisedWrongModel", "takes1", "(I)I"⟩, 52), (⟨"PractisedWrongModel", "spreads", "(IIII)V"⟩, 52), (⟨"PractisedWrongModel", "firstFalse", "(I)I"⟩, 52), (⟨"PractisedWrongModel", "mayBe", "(II)Z"⟩, 52), (⟨"PractisedWrongModel", "keeps", "(II)V"⟩, 52)]
theorem lw_r4 : ∀ q ∈ lw_privs_4, lw_okq q := List.forall_mem_cons.mpr ⟨lw_p48, List.forall_mem_cons.mpr ⟨lw_p49, List.forall_mem_cons.mpr ⟨lw_p50, List.forall_mem_cons.mpr ⟨lw_p51, List.forall_mem_cons.mpr ⟨lw_p52, List.forall_mem_cons.mpr ⟨lw_p53, List.forall_mem_cons.mpr ⟨lw_p54, List.forall_mem_cons.mpr ⟨lw_p55, List.forall_mem_cons.mpr ⟨lw_p56, List.forall_mem_cons.mpr ⟨lw_p57, List.forall_mem_cons.mpr ⟨lw_p58, List.forall_mem_cons.mpr ⟨lw_p59, List.forall_mem_cons.mpr ⟨lw_p60, List.forall_mem_cons.mpr ⟨lw_p61, List.forall_mem_cons.mpr ⟨lw_p62, List.forall_mem_cons.mpr ⟨lw_p63, fun _ h => absurd h List.not_mem_nil⟩⟩⟩⟩⟩⟩⟩⟩⟩⟩⟩⟩⟩⟩⟩⟩
theorem lw_p64 : lw_okq (⟨"PractisedWrongModel", "hearsDay", "(II)V"⟩, 52) := ⟨⟨by decide +kernel, by decide +kernel⟩, List.mem_of_getElem? (i := 898) (by decide +kernel), List.mem_of_getElem? (i := 1353) (by decide +kernel), List.mem_of_getElem? (i := 1354) (by decide +kernel)⟩
theorem lw_p65 : lw_okq (⟨"PractisedWrongModel", "loads", "(II)V"⟩, 52) := ⟨⟨by decide +kernel, by decide +kernel⟩, List.mem_of_getElem? (i := 898) (by decide +kernel), List.mem_of_getElem? (i := 1357) (by decide +kernel), List.mem_of_getElem? (i := 1358) (by decide +kernel)⟩
theorem lw_p66 : lw_okq (⟨"PractisedWrongModel", "lays", "()V"⟩, 52) := ⟨⟨by decide +kernel, by decide +kernel⟩, List.mem_of_getElem? (i := 898) (by decide +kernel), List.mem_of_getElem? (i := 1370) (by decide +kernel), List.mem_of_getElem? (i := 1371) (by decide +kernel)⟩
theorem lw_p67 : lw_okq (⟨"PractisedWrongModel", "isBody", "(I)Z"⟩, 52) := ⟨⟨by decide +kernel, by decide +kernel⟩, List.mem_of_getElem? (i := 898) (by decide +kernel), List.mem_of_getElem? (i := 1403) (by decide +kernel), List.mem_of_getElem? (i := 1404) (by decide +kernel)⟩
theorem lw_p68 : lw_okq (⟨"PractisedWrongModel", "playsAs", "(II)I"⟩, 52) := ⟨⟨by decide +kernel, by decide +kernel⟩, List.mem_of_getElem? (i := 898) (by decide +kernel), List.mem_of_getElem? (i := 1407) (by decide +kernel), List.mem_of_getElem? (i := 1408) (by decide +kernel)⟩
theorem lw_p69 : lw_okq (⟨"PractisedWrongModel", "begins", "(I)V"⟩, 52) := ⟨⟨by decide +kernel, by decide +kernel⟩, List.mem_of_getElem? (i := 898) (by decide +kernel), List.mem_of_getElem? (i := 1411) (by decide +kernel), List.mem_of_getElem? (i := 1412) (by decide +kernel)⟩
theorem lw_p70 : lw_okq (⟨"PractisedWrongModel", "addsAs", "(II)I"⟩, 52) := ⟨⟨by decide +kernel, by decide +kernel⟩, List.mem_of_getElem? (i := 898) (by decide +kernel), List.mem_of_getElem? (i := 1415) (by decide +kernel), List.mem_of_getElem? (i := 1416) (by decide +kernel)⟩
theorem lw_p71 : lw_okq (⟨"PractisedWrongModel", "fadesAs", "(II)I"⟩, 52) := ⟨⟨by decide +kernel, by decide +kernel⟩, List.mem_of_getElem? (i := 898) (by decide +kernel), List.mem_of_getElem? (i := 1419) (by decide +kernel), List.mem_of_getElem? (i := 1420) (by decide +kernel)⟩
theorem lw_p72 : lw_okq (⟨"PractisedWrongModel", "tellsAs", "(II)I"⟩, 52) := ⟨⟨by decide +kernel, by decide +kernel⟩, List.mem_of_getElem? (i := 898) (by decide +kernel), List.mem_of_getElem? (i := 1423) (by decide +kernel), List.mem_of_getElem? (i := 1424) (by decide +kernel)⟩
theorem lw_p73 : lw_okq (⟨"PractisedWrongModel", "refusal", "(II)I"⟩, 52) := ⟨⟨by decide +kernel, by decide +kernel⟩, List.mem_of_getElem? (i := 898) (by decide +kernel), List.mem_of_getElem? (i := 1443) (by decide +kernel), List.mem_of_getElem? (i := 1444) (by decide +kernel)⟩
theorem lw_p74 : lw_okq (⟨"PractisedWrongModel", "kindOf", "(I)I"⟩, 52) := ⟨⟨by decide +kernel, by decide +kernel⟩, List.mem_of_getElem? (i := 898) (by decide +kernel), List.mem_of_getElem? (i := 1462) (by decide +kernel), List.mem_of_getElem? (i := 1463) (by decide +kernel)⟩
def lw_privs_5 : List (MethodName × Nat) := [(⟨"PractisedWrongModel", "hearsDay", "(II)V"⟩, 52), (⟨"PractisedWrongModel", "loads", "(II)V"⟩, 52), (⟨"PractisedWrongModel", "lays", "()V"⟩, 52), (⟨"PractisedWrongModel", "isBody", "(I)Z"⟩, 52), (⟨"PractisedWrongModel", "playsAs", "(II)I"⟩, 52), (⟨"PractisedWrongModel", "begins", "(I)V"⟩, 52), (⟨"PractisedWrongModel", "addsAs", "(II)I"⟩, 52), (⟨"PractisedWrongModel", "fadesAs", "(II)I"⟩, 52), (⟨"PractisedWrongModel", "tellsAs", "(II)I"⟩, 52), (⟨"PractisedWrongModel", "refusal", "(II)I"⟩, 52), (⟨"PractisedWrongModel", "kindOf", "(I)I"⟩, 52)]
theorem lw_r5 : ∀ q ∈ lw_privs_5, lw_okq q := List.forall_mem_cons.mpr ⟨lw_p64, List.forall_mem_cons.mpr ⟨lw_p65, List.forall_mem_cons.mpr ⟨lw_p66, List.forall_mem_cons.mpr ⟨lw_p67, List.forall_mem_cons.mpr ⟨lw_p68, List.forall_mem_cons.mpr ⟨lw_p69, List.forall_mem_cons.mpr ⟨lw_p70, List.forall_mem_cons.mpr ⟨lw_p71, List.forall_mem_cons.mpr ⟨lw_p72, List.forall_mem_cons.mpr ⟨lw_p73, List.forall_mem_cons.mpr ⟨lw_p74, fun _ h => absurd h List.not_mem_nil⟩⟩⟩⟩⟩⟩⟩⟩⟩⟩⟩
def lw_privs : List (MethodName × Nat) := lw_privs_1 ++ (lw_privs_2 ++ (lw_privs_3 ++ (lw_privs_4 ++ (lw_privs_5))))
def lw_tbl : List Cond := k2_sels lw_privs ++ tables_1
theorem lw_privs_ok : ∀ q ∈ lw_privs, lw_okq q := by
  show ∀ q ∈ lw_privs_1 ++ (lw_privs_2 ++ (lw_privs_3 ++ (lw_privs_4 ++ (lw_privs_5)))), lw_okq q
  exact List.forall_mem_append.mpr ⟨lw_r1, List.forall_mem_append.mpr ⟨lw_r2, List.forall_mem_append.mpr ⟨lw_r3, List.forall_mem_append.mpr ⟨lw_r4, lw_r5⟩⟩⟩⟩
def RX0 : String := "PractisedWrong$Bodies"
def TX0 : u_T := fun k => match k with
  | 0 => ("PractisedWrong$Bodies", "kinds", "[I", true)
  | 1 => ("PractisedWrong$Bodies", "size", "I", false)
  | 2 => ("PractisedWrong$Bodies", "begun", "[I", true)
  | 3 => ("PractisedWrong$Bodies", "ran", "I", false)
  | _ => ("PractisedWrong$Bodies", "self", "I", false)
def tyX0 : Nat → FieldType := fun k => match k with
  | 0 => .array .int
  | 1 => .int
  | 2 => .array .int
  | 3 => .int
  | _ => .int
theorem nmX0 : ∀ a, a < 5 → ∀ b, b < 5 → a ≠ b → (TX0 a).2.1 ≠ (TX0 b).2.1 := by decide +kernel
theorem tyX0_ok : ∀ k, k < 5 → parseFieldDescriptor (TX0 k).2.2.1 = some (tyX0 k) := by decide +kernel
def RX1 : String := "PractisedWrong$Changes"
def TX1 : u_T := fun k => match k with
  | 0 => ("PractisedWrong$Changes", "number", "[I", true)
  | 1 => ("PractisedWrong$Changes", "what", "[I", true)
  | 2 => ("PractisedWrong$Changes", "was", "[I", true)
  | 3 => ("PractisedWrong$Changes", "became", "[I", true)
  | 4 => ("PractisedWrong$Changes", "done", "I", false)
  | _ => ("PractisedWrong$Changes", "told", "I", false)
def tyX1 : Nat → FieldType := fun k => match k with
  | 0 => .array .int
  | 1 => .array .int
  | 2 => .array .int
  | 3 => .array .int
  | 4 => .int
  | _ => .int
theorem nmX1 : ∀ a, a < 6 → ∀ b, b < 6 → a ≠ b → (TX1 a).2.1 ≠ (TX1 b).2.1 := by decide +kernel
theorem tyX1_ok : ∀ k, k < 6 → parseFieldDescriptor (TX1 k).2.2.1 = some (tyX1 k) := by decide +kernel
def RX2 : String := "PractisedWrong$Ear"
def TX2 : u_T := fun k => match k with
  | _ => ("PractisedWrong$Ear", "firstBoth", "I", false)
def tyX2 : Nat → FieldType := fun k => match k with
  | _ => .int
theorem nmX2 : ∀ a, a < 1 → ∀ b, b < 1 → a ≠ b → (TX2 a).2.1 ≠ (TX2 b).2.1 := by decide +kernel
theorem tyX2_ok : ∀ k, k < 1 → parseFieldDescriptor (TX2 k).2.2.1 = some (tyX2 k) := by decide +kernel
def RX3 : String := "PractisedWrong$Hands"
def TX3 : u_T := fun k => match k with
  | 0 => ("PractisedWrong$Hands", "size", "I", false)
  | 1 => ("PractisedWrong$Hands", "right", "[I", true)
  | 2 => ("PractisedWrong$Hands", "wrong", "[I", true)
  | 3 => ("PractisedWrong$Hands", "marked", "[I", true)
  | 4 => ("PractisedWrong$Hands", "played", "[I", true)
  | _ => ("PractisedWrong$Hands", "cameRight", "[I", true)
def tyX3 : Nat → FieldType := fun k => match k with
  | 0 => .int
  | 1 => .array .int
  | 2 => .array .int
  | 3 => .array .int
  | 4 => .array .int
  | _ => .array .int
theorem nmX3 : ∀ a, a < 6 → ∀ b, b < 6 → a ≠ b → (TX3 a).2.1 ≠ (TX3 b).2.1 := by decide +kernel
theorem tyX3_ok : ∀ k, k < 6 → parseFieldDescriptor (TX3 k).2.2.1 = some (tyX3 k) := by decide +kernel
def RX4 : String := "PractisedWrong$Law"
def TX4 : u_T := fun k => match k with
  | 0 => ("PractisedWrong$Law", "tape", "[I", true)
  | 1 => ("PractisedWrong$Law", "tapeLength", "I", false)
  | 2 => ("PractisedWrong$Law", "place", "I", false)
  | 3 => ("PractisedWrong$Law", "draft", "[I", false)
  | 4 => ("PractisedWrong$Law", "draftLength", "I", false)
  | 5 => ("PractisedWrong$Law", "code", "[I", false)
  | 6 => ("PractisedWrong$Law", "codeLength", "I", false)
  | 7 => ("PractisedWrong$Law", "stack", "[I", true)
  | _ => ("PractisedWrong$Law", "names", "[I", true)
def tyX4 : Nat → FieldType := fun k => match k with
  | 0 => .array .int
  | 1 => .int
  | 2 => .int
  | 3 => .array .int
  | 4 => .int
  | 5 => .array .int
  | 6 => .int
  | 7 => .array .int
  | _ => .array .int
theorem nmX4 : ∀ a, a < 9 → ∀ b, b < 9 → a ≠ b → (TX4 a).2.1 ≠ (TX4 b).2.1 := by decide +kernel
theorem tyX4_ok : ∀ k, k < 9 → parseFieldDescriptor (TX4 k).2.2.1 = some (tyX4 k) := by decide +kernel
def RX5 : String := "PractisedWrong$Planner"
def TX5 : u_T := fun k => match k with
  | 0 => ("PractisedWrong$Planner", "counted", "I", false)
  | 1 => ("PractisedWrong$Planner", "rightOnes", "I", false)
  | 2 => ("PractisedWrong$Planner", "latest", "I", false)
  | 3 => ("PractisedWrong$Planner", "cost", "[I", true)
  | 4 => ("PractisedWrong$Planner", "chosenBits", "I", false)
  | 5 => ("PractisedWrong$Planner", "chosenPlayings", "I", false)
  | 6 => ("PractisedWrong$Planner", "days", "[I", true)
  | 7 => ("PractisedWrong$Planner", "lastDay", "I", false)
  | 8 => ("PractisedWrong$Planner", "bestDays", "[I", true)
  | _ => ("PractisedWrong$Planner", "bestLead", "I", false)
def tyX5 : Nat → FieldType := fun k => match k with
  | 0 => .int
  | 1 => .int
  | 2 => .int
  | 3 => .array .int
  | 4 => .int
  | 5 => .int
  | 6 => .array .int
  | 7 => .int
  | 8 => .array .int
  | _ => .int
theorem nmX5 : ∀ a, a < 10 → ∀ b, b < 10 → a ≠ b → (TX5 a).2.1 ≠ (TX5 b).2.1 := by decide +kernel
theorem tyX5_ok : ∀ k, k < 10 → parseFieldDescriptor (TX5 k).2.2.1 = some (tyX5 k) := by decide +kernel
def RX6 : String := "PractisedWrong$Practice"
def TX6 : u_T := fun k => match k with
  | 0 => ("PractisedWrong$Practice", "now", "LPractisedWrong$Hands;", true)
  | 1 => ("PractisedWrong$Practice", "thought", "LPractisedWrong$Hands;", true)
  | 2 => ("PractisedWrong$Practice", "law", "LPractisedWrong$Law;", true)
  | 3 => ("PractisedWrong$Practice", "habits", "[I", true)
  | _ => ("PractisedWrong$Practice", "given", "I", false)
def tyX6 : Nat → FieldType := fun k => match k with
  | 0 => .object "PractisedWrong$Hands"
  | 1 => .object "PractisedWrong$Hands"
  | 2 => .object "PractisedWrong$Law"
  | 3 => .array .int
  | _ => .int
theorem nmX6 : ∀ a, a < 5 → ∀ b, b < 5 → a ≠ b → (TX6 a).2.1 ≠ (TX6 b).2.1 := by decide +kernel
theorem tyX6_ok : ∀ k, k < 5 → parseFieldDescriptor (TX6 k).2.2.1 = some (tyX6 k) := by decide +kernel
def RX7 : String := "PractisedWrong$Shelf"
def TX7 : u_T := fun k => match k with
  | 0 => ("PractisedWrong$Shelf", "kept", "I", false)
  | 1 => ("PractisedWrong$Shelf", "sort", "I", false)
  | 2 => ("PractisedWrong$Shelf", "length", "I", false)
  | _ => ("PractisedWrong$Shelf", "elements", "[J", true)
def tyX7 : Nat → FieldType := fun k => match k with
  | 0 => .int
  | 1 => .int
  | 2 => .int
  | _ => .array .long
theorem nmX7 : ∀ a, a < 4 → ∀ b, b < 4 → a ≠ b → (TX7 a).2.1 ≠ (TX7 b).2.1 := by decide +kernel
theorem tyX7_ok : ∀ k, k < 4 → parseFieldDescriptor (TX7 k).2.2.1 = some (tyX7 k) := by decide +kernel
def RX8 : String := "PractisedWrong"
def TX8 : u_T := fun k => match k with
  | 0 => ("PractisedWrong", "practice", "LPractisedWrong$Practice;", true)
  | 1 => ("PractisedWrong", "now", "LPractisedWrong$Hands;", true)
  | 2 => ("PractisedWrong", "planner", "LPractisedWrong$Planner;", true)
  | 3 => ("PractisedWrong", "ear", "LPractisedWrong$Ear;", true)
  | 4 => ("PractisedWrong", "changes", "LPractisedWrong$Changes;", true)
  | 5 => ("PractisedWrong", "bodies", "LPractisedWrong$Bodies;", true)
  | 6 => ("PractisedWrong", "shelves", "[LPractisedWrong$Shelf;", true)
  | 7 => ("PractisedWrong", "ledger", "[I", true)
  | 8 => ("PractisedWrong", "imageHands", "LPractisedWrong$Hands;", true)
  | 9 => ("PractisedWrong", "imageLedger", "[I", true)
  | _ => ("PractisedWrong", "imageKept", "Z", false)
def tyX8 : Nat → FieldType := fun k => match k with
  | 0 => .object "PractisedWrong$Practice"
  | 1 => .object "PractisedWrong$Hands"
  | 2 => .object "PractisedWrong$Planner"
  | 3 => .object "PractisedWrong$Ear"
  | 4 => .object "PractisedWrong$Changes"
  | 5 => .object "PractisedWrong$Bodies"
  | 6 => .array (.object "PractisedWrong$Shelf")
  | 7 => .array .int
  | 8 => .object "PractisedWrong$Hands"
  | 9 => .array .int
  | _ => .boolean
theorem nmX8 : ∀ a, a < 11 → ∀ b, b < 11 → a ≠ b → (TX8 a).2.1 ≠ (TX8 b).2.1 := by decide +kernel
theorem tyX8_ok : ∀ k, k < 11 → parseFieldDescriptor (TX8 k).2.2.1 = some (tyX8 k) := by decide +kernel
def RX9 : String := "PractisedWrongModel"
def TX9 : u_T := fun k => match k with
  | 0 => ("PractisedWrongModel", "may", "[I", true)
  | 1 => ("PractisedWrongModel", "changeAt", "[I", true)
  | 2 => ("PractisedWrongModel", "changeWas", "[I", true)
  | 3 => ("PractisedWrongModel", "changeIs", "[I", true)
  | 4 => ("PractisedWrongModel", "keptMany", "I", false)
  | 5 => ("PractisedWrongModel", "done", "I", false)
  | 6 => ("PractisedWrongModel", "bars", "I", false)
  | 7 => ("PractisedWrongModel", "played", "[I", true)
  | 8 => ("PractisedWrongModel", "cameRight", "[I", true)
  | 9 => ("PractisedWrongModel", "tape", "[I", true)
  | 10 => ("PractisedWrongModel", "tapeMany", "I", false)
  | 11 => ("PractisedWrongModel", "text", "[I", true)
  | 12 => ("PractisedWrongModel", "textMany", "I", false)
  | 13 => ("PractisedWrongModel", "base", "I", false)
  | 14 => ("PractisedWrongModel", "at", "I", false)
  | 15 => ("PractisedWrongModel", "ends", "I", false)
  | 16 => ("PractisedWrongModel", "fault", "I", false)
  | 17 => ("PractisedWrongModel", "opened", "I", false)
  | 18 => ("PractisedWrongModel", "names", "[I", true)
  | 19 => ("PractisedWrongModel", "right", "[I", true)
  | 20 => ("PractisedWrongModel", "wrong", "[I", true)
  | 21 => ("PractisedWrongModel", "playedNow", "[I", true)
  | 22 => ("PractisedWrongModel", "rightNow", "[I", true)
  | 23 => ("PractisedWrongModel", "fades", "I", false)
  | 24 => ("PractisedWrongModel", "fewest", "[I", true)
  | 25 => ("PractisedWrongModel", "onDay", "[I", true)
  | 26 => ("PractisedWrongModel", "bestOnDay", "[I", true)
  | 27 => ("PractisedWrongModel", "bestLead", "I", false)
  | 28 => ("PractisedWrongModel", "twoRight", "[I", true)
  | 29 => ("PractisedWrongModel", "twoWrong", "[I", true)
  | 30 => ("PractisedWrongModel", "twoPlayed", "[I", true)
  | 31 => ("PractisedWrongModel", "twoCame", "[I", true)
  | 32 => ("PractisedWrongModel", "twoIs", "[Z", true)
  | 33 => ("PractisedWrongModel", "twoAdds", "[I", true)
  | 34 => ("PractisedWrongModel", "ledPlayings", "I", false)
  | 35 => ("PractisedWrongModel", "ledRight", "I", false)
  | 36 => ("PractisedWrongModel", "ledNights", "I", false)
  | 37 => ("PractisedWrongModel", "ledLessons", "I", false)
  | 38 => ("PractisedWrongModel", "ledMost", "I", false)
  | 39 => ("PractisedWrongModel", "isKept", "Z", false)
  | 40 => ("PractisedWrongModel", "imageBars", "I", false)
  | 41 => ("PractisedWrongModel", "image", "[I", true)
  | 42 => ("PractisedWrongModel", "bodies", "I", false)
  | 43 => ("PractisedWrongModel", "bodyKind", "[I", true)
  | 44 => ("PractisedWrongModel", "trace", "[I", true)
  | 45 => ("PractisedWrongModel", "ran", "I", false)
  | 46 => ("PractisedWrongModel", "ownKind", "I", false)
  | 47 => ("PractisedWrongModel", "ownNumber", "I", false)
  | 48 => ("PractisedWrongModel", "shelf", "[I", true)
  | 49 => ("PractisedWrongModel", "many", "[I", true)
  | 50 => ("PractisedWrongModel", "items", "[J", true)
  | _ => ("PractisedWrongModel", "carried", "[J", true)
def tyX9 : Nat → FieldType := fun k => match k with
  | 0 => .array .int
  | 1 => .array .int
  | 2 => .array .int
  | 3 => .array .int
  | 4 => .int
  | 5 => .int
  | 6 => .int
  | 7 => .array .int
  | 8 => .array .int
  | 9 => .array .int
  | 10 => .int
  | 11 => .array .int
  | 12 => .int
  | 13 => .int
  | 14 => .int
  | 15 => .int
  | 16 => .int
  | 17 => .int
  | 18 => .array .int
  | 19 => .array .int
  | 20 => .array .int
  | 21 => .array .int
  | 22 => .array .int
  | 23 => .int
  | 24 => .array .int
  | 25 => .array .int
  | 26 => .array .int
  | 27 => .int
  | 28 => .array .int
  | 29 => .array .int
  | 30 => .array .int
  | 31 => .array .int
  | 32 => .array .boolean
  | 33 => .array .int
  | 34 => .int
  | 35 => .int
  | 36 => .int
  | 37 => .int
  | 38 => .int
  | 39 => .boolean
  | 40 => .int
  | 41 => .array .int
  | 42 => .int
  | 43 => .array .int
  | 44 => .array .int
  | 45 => .int
  | 46 => .int
  | 47 => .int
  | 48 => .array .int
  | 49 => .array .int
  | 50 => .array .long
  | _ => .array .long
theorem nmX9 : ∀ a, a < 52 → ∀ b, b < 52 → a ≠ b → (TX9 a).2.1 ≠ (TX9 b).2.1 := by decide +kernel
theorem tyX9_ok : ∀ k, k < 52 → parseFieldDescriptor (TX9 k).2.2.1 = some (tyX9 k) := by decide +kernel
abbrev vwCl : List vw_C := [(RX0, TX0, 5), (RX1, TX1, 6), (RX2, TX2, 1), (RX3, TX3, 6), (RX4, TX4, 9), (RX5, TX5, 10), (RX6, TX6, 5), (RX7, TX7, 4), (RX8, TX8, 11), (RX9, TX9, 52)]
