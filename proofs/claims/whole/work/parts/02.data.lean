/-! the little machine: data of its world (85 cells, as the constructors make them), its methods -/
abbrev pmS : Type := Nat ⊕ (Nat × Nat)
def pm_SH : List pmS := [.inl 8, .inl 6, .inl 3, .inr (0, 12), .inr (0, 12), .inr (0, 12), .inr (0, 12), .inr (0, 12), .inl 3, .inr (0, 12), .inr (0, 12), .inr (0, 12), .inr (0, 12), .inr (0, 12), .inl 4, .inr (0, 120), .inr (0, 124), .inr (0, 124), .inr (0, 64), .inr (0, 6), .inr (0, 5), .inl 5, .inr (0, 12), .inr (0, 5), .inr (0, 5), .inl 2, .inl 1, .inr (0, 40), .inr (0, 40), .inr (0, 40), .inr (0, 40), .inl 0, .inr (0, 50), .inr (0, 24), .inr (3, 6), .inr (0, 5), .inl 3, .inr (0, 12), .inr (0, 12), .inr (0, 12), .inr (0, 12), .inr (0, 12), .inr (0, 5), .inl 7, .inr (1, 60), .inl 7, .inr (1, 60), .inl 7, .inr (1, 60), .inl 7, .inr (1, 60), .inl 7, .inr (1, 60), .inl 7, .inr (1, 60), .inl 9, .inr (0, 41), .inr (0, 40), .inr (0, 40), .inr (0, 40), .inr (0, 12), .inr (0, 12), .inr (0, 120), .inr (0, 120), .inr (0, 6), .inr (0, 12), .inr (0, 12), .inr (0, 12), .inr (0, 12), .inr (0, 12), .inr (0, 5), .inr (0, 5), .inr (0, 2), .inr (0, 2), .inr (0, 2), .inr (0, 2), .inr (2, 2), .inr (0, 2), .inr (0, 53), .inr (0, 50), .inr (0, 24), .inr (0, 6), .inr (0, 6), .inr (1, 360), .inr (1, 60)]
/-- the fields of a class: 0 an int, 1 a boolean, 2 a reference -/
def pm_ftl : List (List Nat) := [[2, 0, 2, 0, 0], [2, 2, 2, 2, 0, 0], [0], [0, 2, 2, 2, 2, 2], [2, 0, 0, 2, 0, 2, 0, 2, 2], [0, 0, 0, 2, 0, 0, 2, 0, 2, 0], [2, 2, 2, 2, 0], [0, 0, 0, 2], [2, 2, 2, 2, 2, 2, 2, 2, 2, 2, 1], [2, 2, 2, 2, 0, 0, 0, 2, 2, 2, 0, 2, 0, 0, 0, 0, 0, 0, 2, 2, 2, 2, 2, 0, 2, 2, 2, 0, 2, 2, 2, 2, 2, 2, 0, 0, 0, 0, 0, 1, 0, 2, 0, 2, 2, 0, 0, 0, 2, 2, 2, 2]]
/-- what the references of a cell hold: places; 2000, 2001: what moves (draft, code); 999: none -/
def pm_rfl : List (List Nat) := [[1, 2, 21, 25, 26, 31, 34, 35, 36, 42], [2, 8, 14, 20], [999, 3, 4, 5, 6, 7], [], [], [], [], [], [999, 9, 10, 11, 12, 13], [], [], [], [], [], [15, 999, 999, 2000, 999, 2001, 999, 18, 19], [], [], [], [], [], [], [999, 999, 999, 22, 999, 999, 23, 999, 24], [], [], [], [], [27, 28, 29, 30], [], [], [], [], [32, 999, 33], [], [], [43, 45, 47, 49, 51, 53], [], [999, 37, 38, 39, 40, 41], [], [], [], [], [], [], [999, 999, 999, 44], [], [999, 999, 999, 46], [], [999, 999, 999, 48], [], [999, 999, 999, 50], [], [999, 999, 999, 52], [], [999, 999, 999, 54], [], [56, 57, 58, 59, 999, 999, 999, 60, 61, 62, 999, 63, 999, 999, 999, 999, 999, 999, 64, 65, 66, 67, 68, 999, 69, 70, 71, 999, 72, 73, 74, 75, 76, 77, 999, 999, 999, 999, 999, 999, 999, 78, 999, 79, 80, 999, 999, 999, 81, 82, 83, 84], [], [], [], [], [], [], [], [], [], [], [], [], [], [], [], [], [], [], [], [], [], [], [], [], [], [], [], [], []]
def pm_G (j : Nat) : Int32 := ([999, 999, 1, 99, 99, 12, 9, 99] : List Int32).getD j 0
def pm_AB (j : Nat) : Int32 := ([-1, 0, 0, 2, 1, 3, 0, 4] : List Int32).getD j 0
def pm_OW (j : Nat) : Int32 := ([1, 10, 11, 2, 20, 0, 0, 0, 0, 30, 0, 0, 0, 41, 40, 0, 0, 0, 50, 0, 0, 0, 0, 60, 70, 0, 0, 0, 0, 80, 0, 81] : List Int32).getD j 0
def pm_mt : List (MethodName × ByteArray × Nat × Option FieldType × Bool) := [
  (⟨"PractisedWrong$Bodies", "<init>", "()V"⟩, prog_2_method_1_code, 1, none, false),
  (⟨"PractisedWrong$Bodies", "add", "(I)I"⟩, prog_2_method_2_code, 2, some .int, false),
  (⟨"PractisedWrong$Bodies", "kindOf", "(I)I"⟩, prog_2_method_3_code, 2, some .int, false),
  (⟨"PractisedWrong$Bodies", "isUnder", "(II)Z"⟩, prog_2_method_4_code, 4, some .boolean, true),
  (⟨"PractisedWrong$Bodies", "traced", "(I)I"⟩, prog_2_method_5_code, 2, some .int, false),
  (⟨"PractisedWrong$Bodies", "perform", "(III)I"⟩, prog_2_method_6_code, 4, some .int, false),
  (⟨"PractisedWrong$Bodies", "holder", "(II)I"⟩, prog_2_method_7_code, 4, some .int, true),
  (⟨"PractisedWrong$Bodies", "run", "(IIII)I"⟩, prog_2_method_8_code, 10, some .int, false),
  (⟨"PractisedWrong$Bodies", "note", "(I)V"⟩, prog_2_method_9_code, 2, none, false),
  (⟨"PractisedWrong$Changes", "<init>", "()V"⟩, prog_3_method_1_code, 1, none, false),
  (⟨"PractisedWrong$Changes", "add", "(IIII)V"⟩, prog_3_method_2_code, 5, none, false),
  (⟨"PractisedWrong$Changes", "forgetOldest", "()V"⟩, prog_3_method_3_code, 1, none, false),
  (⟨"PractisedWrong$Changes", "takeBack", "()I"⟩, prog_3_method_4_code, 1, some .int, false),
  (⟨"PractisedWrong$Changes", "takeAgain", "()I"⟩, prog_3_method_5_code, 1, some .int, false),
  (⟨"PractisedWrong$Ear", "<init>", "()V"⟩, prog_4_method_1_code, 1, none, false),
  (⟨"PractisedWrong$Ear", "firstUnlike", "(LPractisedWrong$Practice;LPractisedWrong$Shelf;)I"⟩, prog_4_method_2_code, 3, some .int, false),
  (⟨"PractisedWrong$Ear", "unlikeFromThought", "(LPractisedWrong$Practice;LPractisedWrong$Shelf;I)I"⟩, prog_4_method_3_code, 7, some .int, false),
  (⟨"PractisedWrong$Ear", "differs", "(JI)Z"⟩, prog_4_method_4_code, 3, some .boolean, true),
  (⟨"PractisedWrong$Ear", "fittingWrong", "(LPractisedWrong$Practice;LPractisedWrong$Shelf;IZ)I"⟩, prog_4_method_5_code, 7, some .int, false),
  (⟨"PractisedWrong$Ear", "leastFades", "(LPractisedWrong$Practice;LPractisedWrong$Shelf;)I"⟩, prog_4_method_6_code, 4, some .int, false),
  (⟨"PractisedWrong$Ear", "likeBars", "(LPractisedWrong$Practice;LPractisedWrong$Shelf;)I"⟩, prog_4_method_7_code, 5, some .int, false),
  (⟨"PractisedWrong$Ear", "mayHaveBeen", "(LPractisedWrong$Practice;ILPractisedWrong$Shelf;)Z"⟩, prog_4_method_8_code, 6, some .boolean, false),
  (⟨"PractisedWrong$Ear", "hearEachOther", "(LPractisedWrong$Practice;III)V"⟩, prog_4_method_9_code, 10, none, false),
  (⟨"PractisedWrong$Hands", "<init>", "()V"⟩, prog_5_method_1_code, 1, none, false),
  (⟨"PractisedWrong$Hands", "add", "(II)I"⟩, prog_5_method_2_code, 3, some .int, false),
  (⟨"PractisedWrong$Hands", "takeAll", "(LPractisedWrong$Hands;)V"⟩, prog_5_method_3_code, 3, none, false),
  (⟨"PractisedWrong$Hands", "takeBar", "(ILPractisedWrong$Hands;I)V"⟩, prog_5_method_4_code, 4, none, false),
  (⟨"PractisedWrong$Hands", "takeFingers", "(ILPractisedWrong$Hands;I)V"⟩, prog_5_method_5_code, 4, none, false),
  (⟨"PractisedWrong$Hands", "layBack", "(LPractisedWrong$Hands;)V"⟩, prog_5_method_6_code, 3, none, false),
  (⟨"PractisedWrong$Hands", "learn", "(III)V"⟩, prog_5_method_7_code, 4, none, false),
  (⟨"PractisedWrong$Hands", "lead", "(I)I"⟩, prog_5_method_8_code, 2, some .int, false),
  (⟨"PractisedWrong$Hands", "lessonBits", "()I"⟩, prog_5_method_9_code, 3, some .int, false),
  (⟨"PractisedWrong$Hands", "lessonCount", "()I"⟩, prog_5_method_10_code, 1, some .int, false),
  (⟨"PractisedWrong$Hands", "firstSlip", "()I"⟩, prog_5_method_11_code, 2, some .int, false),
  (⟨"PractisedWrong$Hands", "drawnRight", "(II)I"⟩, prog_5_method_12_code, 5, some .int, false),
  (⟨"PractisedWrong$Law", "<init>", "()V"⟩, prog_6_method_1_code, 1, none, false),
  (⟨"PractisedWrong$Law", "write", "(I)I"⟩, prog_6_method_2_code, 2, some .int, false),
  (⟨"PractisedWrong$Law", "enact", "()I"⟩, prog_6_method_3_code, 3, some .int, false),
  (⟨"PractisedWrong$Law", "readLines", "()Z"⟩, prog_6_method_4_code, 2, some .boolean, false),
  (⟨"PractisedWrong$Law", "readLine", "()Z"⟩, prog_6_method_5_code, 1, some .boolean, false),
  (⟨"PractisedWrong$Law", "readLevel", "(II)Z"⟩, prog_6_method_6_code, 6, some .boolean, false),
  (⟨"PractisedWrong$Law", "readOperand", "(I)Z"⟩, prog_6_method_7_code, 4, some .boolean, false),
  (⟨"PractisedWrong$Law", "readBracket", "(I)Z"⟩, prog_6_method_8_code, 2, some .boolean, false),
  (⟨"PractisedWrong$Law", "readNumber", "()V"⟩, prog_6_method_9_code, 3, none, false),
  (⟨"PractisedWrong$Law", "peek", "()I"⟩, prog_6_method_10_code, 1, some .int, false),
  (⟨"PractisedWrong$Law", "emit", "(I)V"⟩, prog_6_method_11_code, 2, none, false),
  (⟨"PractisedWrong$Law", "isDigit", "(I)Z"⟩, prog_6_method_12_code, 1, some .boolean, true),
  (⟨"PractisedWrong$Law", "nameOf", "(I)I"⟩, prog_6_method_13_code, 1, some .int, true),
  (⟨"PractisedWrong$Law", "operationOf", "(II)I"⟩, prog_6_method_14_code, 2, some .int, true),
  (⟨"PractisedWrong$Law", "isTold", "()Z"⟩, prog_6_method_15_code, 1, some .boolean, false),
  (⟨"PractisedWrong$Law", "nameAll", "(IIIIII)V"⟩, prog_6_method_16_code, 7, none, false),
  (⟨"PractisedWrong$Law", "workOut", "()I"⟩, prog_6_method_17_code, 5, some .int, false),
  (⟨"PractisedWrong$Law", "joined", "(III)I"⟩, prog_6_method_18_code, 3, some .int, true),
  (⟨"PractisedWrong$Planner", "<init>", "()V"⟩, prog_7_method_1_code, 1, none, false),
  (⟨"PractisedWrong$Planner", "walk", "(LPractisedWrong$Practice;LPractisedWrong$Shelf;I)V"⟩, prog_7_method_2_code, 6, none, false),
  (⟨"PractisedWrong$Planner", "earliestStop", "(LPractisedWrong$Practice;LPractisedWrong$Shelf;)I"⟩, prog_7_method_3_code, 6, some .int, false),
  (⟨"PractisedWrong$Planner", "playingsTillRight", "(LPractisedWrong$Practice;II)I"⟩, prog_7_method_4_code, 4, some .int, false),
  (⟨"PractisedWrong$Planner", "tillRight", "(LPractisedWrong$Practice;II)I"⟩, prog_7_method_5_code, 5, some .int, false),
  (⟨"PractisedWrong$Planner", "nightsRight", "(LPractisedWrong$Practice;I)I"⟩, prog_7_method_6_code, 4, some .int, false),
  (⟨"PractisedWrong$Planner", "choose", "(LPractisedWrong$Practice;I)V"⟩, prog_7_method_7_code, 5, none, false),
  (⟨"PractisedWrong$Planner", "playingsForMorning", "(LPractisedWrong$Practice;I)I"⟩, prog_7_method_8_code, 5, some .int, false),
  (⟨"PractisedWrong$Planner", "cheapestLeft", "(I)I"⟩, prog_7_method_9_code, 5, some .int, false),
  (⟨"PractisedWrong$Planner", "spreadOver", "(LPractisedWrong$Practice;III)V"⟩, prog_7_method_10_code, 5, none, false),
  (⟨"PractisedWrong$Planner", "tryDay", "(LPractisedWrong$Practice;II)V"⟩, prog_7_method_11_code, 5, none, false),
  (⟨"PractisedWrong$Planner", "weigh", "(I)V"⟩, prog_7_method_12_code, 2, none, false),
  (⟨"PractisedWrong$Planner", "isLater", "()Z"⟩, prog_7_method_13_code, 2, some .boolean, false),
  (⟨"PractisedWrong$Planner", "fewerByNewFinger", "(LPractisedWrong$Practice;I)I"⟩, prog_7_method_14_code, 4, some .int, false),
  (⟨"PractisedWrong$Planner", "orNever", "(I)I"⟩, prog_7_method_15_code, 1, some .int, true),
  (⟨"PractisedWrong$Planner", "runsTillClean", "(LPractisedWrong$Practice;)I"⟩, prog_7_method_16_code, 3, some .int, false),
  (⟨"PractisedWrong$Planner", "runThrough", "(LPractisedWrong$Practice;)V"⟩, prog_7_method_17_code, 3, none, false),
  (⟨"PractisedWrong$Planner", "playingsByBars", "(LPractisedWrong$Practice;)I"⟩, prog_7_method_18_code, 5, some .int, false),
  (⟨"PractisedWrong$Practice", "<init>", "()V"⟩, prog_8_method_1_code, 1, none, false),
  (⟨"PractisedWrong$Practice", "fades", "()I"⟩, prog_8_method_2_code, 1, some .int, false),
  (⟨"PractisedWrong$Practice", "comes", "(LPractisedWrong$Hands;II)I"⟩, prog_8_method_3_code, 5, some .int, false),
  (⟨"PractisedWrong$Practice", "gives", "(LPractisedWrong$Hands;III)I"⟩, prog_8_method_4_code, 6, some .int, false),
  (⟨"PractisedWrong$Practice", "playOnce", "(LPractisedWrong$Hands;II)I"⟩, prog_8_method_5_code, 5, some .int, false),
  (⟨"PractisedWrong$Practice", "wrongByMorning", "(LPractisedWrong$Hands;II)I"⟩, prog_8_method_6_code, 5, some .int, false),
  (⟨"PractisedWrong$Practice", "rightByMorning", "(LPractisedWrong$Hands;II)I"⟩, prog_8_method_7_code, 4, some .int, false),
  (⟨"PractisedWrong$Practice", "sleepOver", "(LPractisedWrong$Hands;II)V"⟩, prog_8_method_8_code, 4, none, false),
  (⟨"PractisedWrong$Practice", "sleepAll", "(LPractisedWrong$Hands;I)V"⟩, prog_8_method_9_code, 4, none, false),
  (⟨"PractisedWrong$Practice", "step", "(LPractisedWrong$Hands;II)I"⟩, prog_8_method_10_code, 6, some .int, false),
  (⟨"PractisedWrong$Shelf", "<init>", "()V"⟩, prog_9_method_1_code, 1, none, false),
  (⟨"PractisedWrong$Shelf", "isEmpty", "()Z"⟩, prog_9_method_2_code, 1, some .boolean, false),
  (⟨"PractisedWrong$Shelf", "isRow", "()Z"⟩, prog_9_method_3_code, 1, some .boolean, false),
  (⟨"PractisedWrong$Shelf", "isRowOf", "(I)Z"⟩, prog_9_method_4_code, 2, some .boolean, false),
  (⟨"PractisedWrong$Shelf", "holdBody", "(I)V"⟩, prog_9_method_5_code, 2, none, false),
  (⟨"PractisedWrong$Shelf", "holdRow", "(II)V"⟩, prog_9_method_6_code, 4, none, false),
  (⟨"PractisedWrong$Shelf", "refusalOfPlaces", "(II)I"⟩, prog_9_method_7_code, 3, some .int, false),
  (⟨"PractisedWrong$Shelf", "at", "(I)J"⟩, prog_9_method_8_code, 2, some .long, false),
  (⟨"PractisedWrong$Shelf", "set", "(IJ)V"⟩, prog_9_method_9_code, 4, none, false),
  (⟨"PractisedWrong$Shelf", "lowestBits", "(J)J"⟩, prog_9_method_10_code, 3, some .long, false),
  (⟨"PractisedWrong", "<init>", "()V"⟩, prog_1_method_1_code, 2, none, false),
  (⟨"PractisedWrong", "bar", "(II)I"⟩, prog_1_method_2_code, 3, some .int, false),
  (⟨"PractisedWrong", "bars", "(III)I"⟩, prog_1_method_3_code, 7, some .int, false),
  (⟨"PractisedWrong", "mend", "(III)I"⟩, prog_1_method_4_code, 5, some .int, false),
  (⟨"PractisedWrong", "of", "(II)I"⟩, prog_1_method_5_code, 3, some .int, false),
  (⟨"PractisedWrong", "feed", "(I)I"⟩, prog_1_method_6_code, 2, some .int, false),
  (⟨"PractisedWrong", "law", "()I"⟩, prog_1_method_7_code, 1, some .int, false),
  (⟨"PractisedWrong", "playing", "(III)I"⟩, prog_1_method_8_code, 5, some .int, false),
  (⟨"PractisedWrong", "plan", "(III)I"⟩, prog_1_method_9_code, 5, some .int, false),
  (⟨"PractisedWrong", "came", "(II)I"⟩, prog_1_method_10_code, 4, some .int, false),
  (⟨"PractisedWrong", "lesson", "(II)I"⟩, prog_1_method_11_code, 4, some .int, false),
  (⟨"PractisedWrong", "times", "(II)I"⟩, prog_1_method_12_code, 3, some .int, false),
  (⟨"PractisedWrong", "stays", "(I)I"⟩, prog_1_method_13_code, 2, some .int, false),
  (⟨"PractisedWrong", "with", "(II)I"⟩, prog_1_method_14_code, 3, some .int, false),
  (⟨"PractisedWrong", "spread", "(III)I"⟩, prog_1_method_15_code, 6, some .int, false),
  (⟨"PractisedWrong", "stop", "(I)I"⟩, prog_1_method_16_code, 3, some .int, false),
  (⟨"PractisedWrong", "finger", "(II)I"⟩, prog_1_method_17_code, 4, some .int, false),
  (⟨"PractisedWrong", "whole", "(I)I"⟩, prog_1_method_18_code, 2, some .int, false),
  (⟨"PractisedWrong", "odds", "(II)J"⟩, prog_1_method_19_code, 6, some .long, false),
  (⟨"PractisedWrong", "all", "()I"⟩, prog_1_method_20_code, 4, some .int, false),
  (⟨"PractisedWrong", "judge", "(I)I"⟩, prog_1_method_21_code, 3, some .int, false),
  (⟨"PractisedWrong", "wrongFor", "(III)I"⟩, prog_1_method_22_code, 5, some .int, false),
  (⟨"PractisedWrong", "fadesFor", "(I)I"⟩, prog_1_method_23_code, 3, some .int, false),
  (⟨"PractisedWrong", "which", "(I)I"⟩, prog_1_method_24_code, 3, some .int, false),
  (⟨"PractisedWrong", "hearing", "(III)I"⟩, prog_1_method_25_code, 4, some .int, false),
  (⟨"PractisedWrong", "drawn", "(III)I"⟩, prog_1_method_26_code, 10, some .int, false),
  (⟨"PractisedWrong", "play", "(II)I"⟩, prog_1_method_27_code, 4, some .int, false),
  (⟨"PractisedWrong", "night", "()I"⟩, prog_1_method_28_code, 1, some .int, false),
  (⟨"PractisedWrong", "thursday", "()I"⟩, prog_1_method_29_code, 2, some .int, false),
  (⟨"PractisedWrong", "led", "(I)I"⟩, prog_1_method_30_code, 2, some .int, false),
  (⟨"PractisedWrong", "image", "()I"⟩, prog_1_method_31_code, 1, some .int, false),
  (⟨"PractisedWrong", "back", "()I"⟩, prog_1_method_32_code, 1, some .int, false),
  (⟨"PractisedWrong", "undo", "()I"⟩, prog_1_method_33_code, 2, some .int, false),
  (⟨"PractisedWrong", "redo", "()I"⟩, prog_1_method_34_code, 2, some .int, false),
  (⟨"PractisedWrong", "body", "(I)I"⟩, prog_1_method_35_code, 2, some .int, false),
  (⟨"PractisedWrong", "act", "(III)I"⟩, prog_1_method_36_code, 4, some .int, false),
  (⟨"PractisedWrong", "trace", "(I)I"⟩, prog_1_method_37_code, 2, some .int, false),
  (⟨"PractisedWrong", "keep", "(II)I"⟩, prog_1_method_38_code, 3, some .int, false),
  (⟨"PractisedWrong", "row", "(III)I"⟩, prog_1_method_39_code, 4, some .int, false),
  (⟨"PractisedWrong", "put", "(IIJ)I"⟩, prog_1_method_40_code, 7, some .int, false),
  (⟨"PractisedWrong", "element", "(II)J"⟩, prog_1_method_41_code, 3, some .long, false),
  (⟨"PractisedWrong", "shift", "(IIIII)I"⟩, prog_1_method_42_code, 8, some .int, false),
  (⟨"PractisedWrong", "taken", "(II)I"⟩, prog_1_method_43_code, 5, some .int, false),
  (⟨"PractisedWrong", "count", "(I)I"⟩, prog_1_method_44_code, 2, some .int, false),
  (⟨"PractisedWrong", "outside", "(III)Z"⟩, prog_1_method_45_code, 3, some .boolean, true),
  (⟨"PractisedWrong", "noBar", "(I)Z"⟩, prog_1_method_46_code, 2, some .boolean, false),
  (⟨"PractisedWrong", "noShelf", "(I)Z"⟩, prog_1_method_47_code, 1, some .boolean, true),
  (⟨"PractisedWrong", "nothingToMend", "(II)Z"⟩, prog_1_method_48_code, 3, some .boolean, false),
  (⟨"PractisedWrong", "read", "(II)I"⟩, prog_1_method_49_code, 3, some .int, false),
  (⟨"PractisedWrong", "write", "(III)V"⟩, prog_1_method_50_code, 4, none, false),
  (⟨"PractisedWrong", "refusalOfBytes", "(I)I"⟩, prog_1_method_51_code, 3, some .int, false),
  (⟨"PractisedWrong", "greatestDivisor", "(II)I"⟩, prog_1_method_52_code, 6, some .int, true),
  (⟨"PractisedWrongModel", "within", "(JJJ)Z"⟩, prog_11_method_1_code, 6, some .boolean, true),
  (⟨"PractisedWrongModel", "isIn", "(II)Z"⟩, prog_11_method_2_code, 2, some .boolean, true),
  (⟨"PractisedWrongModel", "bitsOf", "(I)I"⟩, prog_11_method_3_code, 3, some .int, true),
  (⟨"PractisedWrongModel", "<init>", "()V"⟩, prog_11_method_4_code, 2, none, false),
  (⟨"PractisedWrongModel", "becomes", "(II)I"⟩, prog_11_method_5_code, 5, some .int, false),
  (⟨"PractisedWrongModel", "undo", "()I"⟩, prog_11_method_6_code, 1, some .int, false),
  (⟨"PractisedWrongModel", "redo", "()I"⟩, prog_11_method_7_code, 1, some .int, false),
  (⟨"PractisedWrongModel", "isBar", "(J)Z"⟩, prog_11_method_8_code, 3, some .boolean, false),
  (⟨"PractisedWrongModel", "adds", "(II)V"⟩, prog_11_method_9_code, 3, none, false),
  (⟨"PractisedWrongModel", "isOne", "(JJ)Z"⟩, prog_11_method_10_code, 4, some .boolean, true),
  (⟨"PractisedWrongModel", "bar", "(II)I"⟩, prog_11_method_11_code, 3, some .int, false),
  (⟨"PractisedWrongModel", "bars", "(III)I"⟩, prog_11_method_12_code, 7, some .int, false),
  (⟨"PractisedWrongModel", "placeOf", "(II)I"⟩, prog_11_method_13_code, 3, some .int, false),
  (⟨"PractisedWrongModel", "greatest", "(I)I"⟩, prog_11_method_14_code, 1, some .int, true),
  (⟨"PractisedWrongModel", "mend", "(III)I"⟩, prog_11_method_15_code, 5, some .int, false),
  (⟨"PractisedWrongModel", "of", "(II)I"⟩, prog_11_method_16_code, 4, some .int, false),
  (⟨"PractisedWrongModel", "feed", "(I)I"⟩, prog_11_method_17_code, 2, some .int, false),
  (⟨"PractisedWrongModel", "byteAt", "()I"⟩, prog_11_method_18_code, 1, some .int, false),
  (⟨"PractisedWrongModel", "wrongAt", "()I"⟩, prog_11_method_19_code, 1, some .int, false),
  (⟨"PractisedWrongModel", "takes", "(I)Z"⟩, prog_11_method_20_code, 2, some .boolean, false),
  (⟨"PractisedWrongModel", "either", "()I"⟩, prog_11_method_21_code, 3, some .int, false),
  (⟨"PractisedWrongModel", "both", "()I"⟩, prog_11_method_22_code, 3, some .int, false),
  (⟨"PractisedWrongModel", "compared", "()I"⟩, prog_11_method_23_code, 4, some .int, false),
  (⟨"PractisedWrongModel", "sums", "()I"⟩, prog_11_method_24_code, 4, some .int, false),
  (⟨"PractisedWrongModel", "product", "()I"⟩, prog_11_method_25_code, 4, some .int, false),
  (⟨"PractisedWrongModel", "nameOf", "(I)I"⟩, prog_11_method_26_code, 1, some .int, true),
  (⟨"PractisedWrongModel", "one", "()I"⟩, prog_11_method_27_code, 5, some .int, false),
  (⟨"PractisedWrongModel", "workOut", "(II)I"⟩, prog_11_method_28_code, 8, some .int, false),
  (⟨"PractisedWrongModel", "law", "()I"⟩, prog_11_method_29_code, 4, some .int, false),
  (⟨"PractisedWrongModel", "begins1", "()V"⟩, prog_11_method_30_code, 2, none, false),
  (⟨"PractisedWrongModel", "beginsBar", "(I)V"⟩, prog_11_method_31_code, 2, none, false),
  (⟨"PractisedWrongModel", "comesRight", "(II)Z"⟩, prog_11_method_32_code, 4, some .boolean, false),
  (⟨"PractisedWrongModel", "addsFor", "(IIZ)I"⟩, prog_11_method_33_code, 6, some .int, false),
  (⟨"PractisedWrongModel", "gains", "(IZI)V"⟩, prog_11_method_34_code, 4, none, false),
  (⟨"PractisedWrongModel", "plays", "(II)Z"⟩, prog_11_method_35_code, 4, some .boolean, false),
  (⟨"PractisedWrongModel", "nightOf", "(I)V"⟩, prog_11_method_36_code, 3, none, false),
  (⟨"PractisedWrongModel", "isRight", "(I)Z"⟩, prog_11_method_37_code, 2, some .boolean, false),
  (⟨"PractisedWrongModel", "playing", "(III)I"⟩, prog_11_method_38_code, 5, some .int, false),
  (⟨"PractisedWrongModel", "bytesIs", "(I)I"⟩, prog_11_method_39_code, 2, some .int, false),
  (⟨"PractisedWrongModel", "itemAt", "(II)J"⟩, prog_11_method_40_code, 3, some .long, false),
  (⟨"PractisedWrongModel", "isPlan", "(J)Z"⟩, prog_11_method_41_code, 3, some .boolean, false),
  (⟨"PractisedWrongModel", "does", "(I)I"⟩, prog_11_method_42_code, 3, some .int, false),
  (⟨"PractisedWrongModel", "planMany", "(I)I"⟩, prog_11_method_43_code, 3, some .int, false),
  (⟨"PractisedWrongModel", "doesPlan", "(II)I"⟩, prog_11_method_44_code, 5, some .int, false),
  (⟨"PractisedWrongModel", "plan", "(III)I"⟩, prog_11_method_45_code, 4, some .int, false),
  (⟨"PractisedWrongModel", "came", "(II)I"⟩, prog_11_method_46_code, 3, some .int, false),
  (⟨"PractisedWrongModel", "rightSet", "()I"⟩, prog_11_method_47_code, 3, some .int, false),
  (⟨"PractisedWrongModel", "slip", "()I"⟩, prog_11_method_48_code, 2, some .int, false),
  (⟨"PractisedWrongModel", "lesson", "(II)I"⟩, prog_11_method_49_code, 5, some .int, false),
  (⟨"PractisedWrongModel", "timesOf", "(II)I"⟩, prog_11_method_50_code, 4, some .int, false),
  (⟨"PractisedWrongModel", "times", "(II)I"⟩, prog_11_method_51_code, 3, some .int, false),
  (⟨"PractisedWrongModel", "stays", "(I)I"⟩, prog_11_method_52_code, 4, some .int, false),
  (⟨"PractisedWrongModel", "findsFewest", "()V"⟩, prog_11_method_53_code, 4, none, false),
  (⟨"PractisedWrongModel", "takes1", "(I)I"⟩, prog_11_method_54_code, 4, some .int, false),
  (⟨"PractisedWrongModel", "with", "(II)I"⟩, prog_11_method_55_code, 7, some .int, false),
  (⟨"PractisedWrongModel", "spreads", "(IIII)V"⟩, prog_11_method_56_code, 7, none, false),
  (⟨"PractisedWrongModel", "spread", "(III)I"⟩, prog_11_method_57_code, 4, some .int, false),
  (⟨"PractisedWrongModel", "stop", "(I)I"⟩, prog_11_method_58_code, 5, some .int, false),
  (⟨"PractisedWrongModel", "finger", "(II)I"⟩, prog_11_method_59_code, 6, some .int, false),
  (⟨"PractisedWrongModel", "whole", "(I)I"⟩, prog_11_method_60_code, 5, some .int, false),
  (⟨"PractisedWrongModel", "commonOf", "(JJ)J"⟩, prog_11_method_61_code, 10, some .long, true),
  (⟨"PractisedWrongModel", "odds", "(II)J"⟩, prog_11_method_62_code, 9, some .long, false),
  (⟨"PractisedWrongModel", "all", "()I"⟩, prog_11_method_63_code, 5, some .int, false),
  (⟨"PractisedWrongModel", "firstFalse", "(I)I"⟩, prog_11_method_64_code, 6, some .int, false),
  (⟨"PractisedWrongModel", "judge", "(I)I"⟩, prog_11_method_65_code, 2, some .int, false),
  (⟨"PractisedWrongModel", "wrongFor", "(III)I"⟩, prog_11_method_66_code, 7, some .int, false),
  (⟨"PractisedWrongModel", "fadesFor", "(I)I"⟩, prog_11_method_67_code, 3, some .int, false),
  (⟨"PractisedWrongModel", "mayBe", "(II)Z"⟩, prog_11_method_68_code, 7, some .boolean, false),
  (⟨"PractisedWrongModel", "which", "(I)I"⟩, prog_11_method_69_code, 4, some .int, false),
  (⟨"PractisedWrongModel", "loads", "(II)V"⟩, prog_11_method_70_code, 3, none, false),
  (⟨"PractisedWrongModel", "keeps", "(II)V"⟩, prog_11_method_71_code, 3, none, false),
  (⟨"PractisedWrongModel", "hearsDay", "(II)V"⟩, prog_11_method_72_code, 5, none, false),
  (⟨"PractisedWrongModel", "hearing", "(III)I"⟩, prog_11_method_73_code, 8, some .int, false),
  (⟨"PractisedWrongModel", "drawn", "(III)I"⟩, prog_11_method_74_code, 11, some .int, false),
  (⟨"PractisedWrongModel", "lays", "()V"⟩, prog_11_method_75_code, 2, none, false),
  (⟨"PractisedWrongModel", "play", "(II)I"⟩, prog_11_method_76_code, 4, some .int, false),
  (⟨"PractisedWrongModel", "night", "()I"⟩, prog_11_method_77_code, 2, some .int, false),
  (⟨"PractisedWrongModel", "thursday", "()I"⟩, prog_11_method_78_code, 2, some .int, false),
  (⟨"PractisedWrongModel", "led", "(I)I"⟩, prog_11_method_79_code, 2, some .int, false),
  (⟨"PractisedWrongModel", "image", "()I"⟩, prog_11_method_80_code, 2, some .int, false),
  (⟨"PractisedWrongModel", "back", "()I"⟩, prog_11_method_81_code, 2, some .int, false),
  (⟨"PractisedWrongModel", "isBody", "(I)Z"⟩, prog_11_method_82_code, 2, some .boolean, false),
  (⟨"PractisedWrongModel", "kindOf", "(I)I"⟩, prog_11_method_83_code, 2, some .int, false),
  (⟨"PractisedWrongModel", "body", "(I)I"⟩, prog_11_method_84_code, 2, some .int, false),
  (⟨"PractisedWrongModel", "above", "(I)I"⟩, prog_11_method_85_code, 1, some .int, true),
  (⟨"PractisedWrongModel", "begins", "(I)V"⟩, prog_11_method_86_code, 2, none, false),
  (⟨"PractisedWrongModel", "playsAs", "(II)I"⟩, prog_11_method_87_code, 3, some .int, false),
  (⟨"PractisedWrongModel", "addsAs", "(II)I"⟩, prog_11_method_88_code, 4, some .int, false),
  (⟨"PractisedWrongModel", "fadesAs", "(II)I"⟩, prog_11_method_89_code, 4, some .int, false),
  (⟨"PractisedWrongModel", "tellsAs", "(II)I"⟩, prog_11_method_90_code, 4, some .int, false),
  (⟨"PractisedWrongModel", "act", "(III)I"⟩, prog_11_method_91_code, 4, some .int, false),
  (⟨"PractisedWrongModel", "trace", "(I)I"⟩, prog_11_method_92_code, 2, some .int, false),
  (⟨"PractisedWrongModel", "isShelf", "(I)Z"⟩, prog_11_method_93_code, 1, some .boolean, true),
  (⟨"PractisedWrongModel", "keep", "(II)I"⟩, prog_11_method_94_code, 3, some .int, false),
  (⟨"PractisedWrongModel", "row", "(III)I"⟩, prog_11_method_95_code, 5, some .int, false),
  (⟨"PractisedWrongModel", "refusal", "(II)I"⟩, prog_11_method_96_code, 3, some .int, false),
  (⟨"PractisedWrongModel", "asSort", "(IJ)J"⟩, prog_11_method_97_code, 3, some .long, true),
  (⟨"PractisedWrongModel", "put", "(IIJ)I"⟩, prog_11_method_98_code, 6, some .int, false),
  (⟨"PractisedWrongModel", "element", "(II)J"⟩, prog_11_method_99_code, 3, some .long, false),
  (⟨"PractisedWrongModel", "shift", "(IIIII)I"⟩, prog_11_method_100_code, 7, some .int, false),
  (⟨"PractisedWrongModel", "taken", "(II)I"⟩, prog_11_method_101_code, 4, some .int, false),
  (⟨"PractisedWrongModel", "count", "(I)I"⟩, prog_11_method_102_code, 2, some .int, false),
  (⟨"java/lang/Integer", "bitCount", "(I)I"⟩, prog_12_method_49_code, 1, some .int, true),
  (⟨"java/lang/Math", "max", "(II)I"⟩, prog_13_method_65_code, 2, some .int, true),
  (⟨"java/lang/Math", "min", "(II)I"⟩, prog_13_method_69_code, 2, some .int, true),
  (⟨"PractisedWrongLaw", "law", "([I)Z"⟩, code, 4, some .boolean, true)]
abbrev M_Bo_init : Nat := 0
abbrev M_Bo_add : Nat := 1
abbrev M_Bo_kindOf : Nat := 2
abbrev M_Bo_isUnder : Nat := 3
abbrev M_Bo_traced : Nat := 4
abbrev M_Bo_perform : Nat := 5
abbrev M_Bo_holder : Nat := 6
abbrev M_Bo_run : Nat := 7
abbrev M_Bo_note : Nat := 8
abbrev M_Ch_init : Nat := 9
abbrev M_Ch_add : Nat := 10
abbrev M_Ch_forgetOldest : Nat := 11
abbrev M_Ch_takeBack : Nat := 12
abbrev M_Ch_takeAgain : Nat := 13
abbrev M_Ea_init : Nat := 14
abbrev M_Ea_firstUnlike : Nat := 15
abbrev M_Ea_unlikeFromThought : Nat := 16
abbrev M_Ea_differs : Nat := 17
abbrev M_Ea_fittingWrong : Nat := 18
abbrev M_Ea_leastFades : Nat := 19
abbrev M_Ea_likeBars : Nat := 20
abbrev M_Ea_mayHaveBeen : Nat := 21
abbrev M_Ea_hearEachOther : Nat := 22
abbrev M_Ha_init : Nat := 23
abbrev M_Ha_add : Nat := 24
abbrev M_Ha_takeAll : Nat := 25
abbrev M_Ha_takeBar : Nat := 26
abbrev M_Ha_takeFingers : Nat := 27
abbrev M_Ha_layBack : Nat := 28
abbrev M_Ha_learn : Nat := 29
abbrev M_Ha_lead : Nat := 30
abbrev M_Ha_lessonBits : Nat := 31
abbrev M_Ha_lessonCount : Nat := 32
abbrev M_Ha_firstSlip : Nat := 33
abbrev M_Ha_drawnRight : Nat := 34
abbrev M_La_init : Nat := 35
abbrev M_La_write : Nat := 36
abbrev M_La_enact : Nat := 37
abbrev M_La_readLines : Nat := 38
abbrev M_La_readLine : Nat := 39
abbrev M_La_readLevel : Nat := 40
abbrev M_La_readOperand : Nat := 41
abbrev M_La_readBracket : Nat := 42
abbrev M_La_readNumber : Nat := 43
abbrev M_La_peek : Nat := 44
abbrev M_La_emit : Nat := 45
abbrev M_La_isDigit : Nat := 46
abbrev M_La_nameOf : Nat := 47
abbrev M_La_operationOf : Nat := 48
abbrev M_La_isTold : Nat := 49
abbrev M_La_nameAll : Nat := 50
abbrev M_La_workOut : Nat := 51
abbrev M_La_joined : Nat := 52
abbrev M_Pl_init : Nat := 53
abbrev M_Pl_walk : Nat := 54
abbrev M_Pl_earliestStop : Nat := 55
abbrev M_Pl_playingsTillRight : Nat := 56
abbrev M_Pl_tillRight : Nat := 57
abbrev M_Pl_nightsRight : Nat := 58
abbrev M_Pl_choose : Nat := 59
abbrev M_Pl_playingsForMorning : Nat := 60
abbrev M_Pl_cheapestLeft : Nat := 61
abbrev M_Pl_spreadOver : Nat := 62
abbrev M_Pl_tryDay : Nat := 63
abbrev M_Pl_weigh : Nat := 64
abbrev M_Pl_isLater : Nat := 65
abbrev M_Pl_fewerByNewFinger : Nat := 66
abbrev M_Pl_orNever : Nat := 67
abbrev M_Pl_runsTillClean : Nat := 68
abbrev M_Pl_runThrough : Nat := 69
abbrev M_Pl_playingsByBars : Nat := 70
abbrev M_Pr_init : Nat := 71
abbrev M_Pr_fades : Nat := 72
abbrev M_Pr_comes : Nat := 73
abbrev M_Pr_gives : Nat := 74
abbrev M_Pr_playOnce : Nat := 75
abbrev M_Pr_wrongByMorning : Nat := 76
abbrev M_Pr_rightByMorning : Nat := 77
abbrev M_Pr_sleepOver : Nat := 78
abbrev M_Pr_sleepAll : Nat := 79
abbrev M_Pr_step : Nat := 80
abbrev M_Sh_init : Nat := 81
abbrev M_Sh_isEmpty : Nat := 82
abbrev M_Sh_isRow : Nat := 83
abbrev M_Sh_isRowOf : Nat := 84
abbrev M_Sh_holdBody : Nat := 85
abbrev M_Sh_holdRow : Nat := 86
abbrev M_Sh_refusalOfPlaces : Nat := 87
abbrev M_Sh_at : Nat := 88
abbrev M_Sh_set : Nat := 89
abbrev M_Sh_lowestBits : Nat := 90
abbrev M_PW_init : Nat := 91
abbrev M_PW_bar : Nat := 92
abbrev M_PW_bars : Nat := 93
abbrev M_PW_mend : Nat := 94
abbrev M_PW_of : Nat := 95
abbrev M_PW_feed : Nat := 96
abbrev M_PW_law : Nat := 97
abbrev M_PW_playing : Nat := 98
abbrev M_PW_plan : Nat := 99
abbrev M_PW_came : Nat := 100
abbrev M_PW_lesson : Nat := 101
abbrev M_PW_times : Nat := 102
abbrev M_PW_stays : Nat := 103
abbrev M_PW_with : Nat := 104
abbrev M_PW_spread : Nat := 105
abbrev M_PW_stop : Nat := 106
abbrev M_PW_finger : Nat := 107
abbrev M_PW_whole : Nat := 108
abbrev M_PW_odds : Nat := 109
abbrev M_PW_all : Nat := 110
abbrev M_PW_judge : Nat := 111
abbrev M_PW_wrongFor : Nat := 112
abbrev M_PW_fadesFor : Nat := 113
abbrev M_PW_which : Nat := 114
abbrev M_PW_hearing : Nat := 115
abbrev M_PW_drawn : Nat := 116
abbrev M_PW_play : Nat := 117
abbrev M_PW_night : Nat := 118
abbrev M_PW_thursday : Nat := 119
abbrev M_PW_led : Nat := 120
abbrev M_PW_image : Nat := 121
abbrev M_PW_back : Nat := 122
abbrev M_PW_undo : Nat := 123
abbrev M_PW_redo : Nat := 124
abbrev M_PW_body : Nat := 125
abbrev M_PW_act : Nat := 126
abbrev M_PW_trace : Nat := 127
abbrev M_PW_keep : Nat := 128
abbrev M_PW_row : Nat := 129
abbrev M_PW_put : Nat := 130
abbrev M_PW_element : Nat := 131
abbrev M_PW_shift : Nat := 132
abbrev M_PW_taken : Nat := 133
abbrev M_PW_count : Nat := 134
abbrev M_PW_outside : Nat := 135
abbrev M_PW_noBar : Nat := 136
abbrev M_PW_noShelf : Nat := 137
abbrev M_PW_nothingToMend : Nat := 138
abbrev M_PW_read : Nat := 139
abbrev M_PW_write : Nat := 140
abbrev M_PW_refusalOfBytes : Nat := 141
abbrev M_PW_greatestDivisor : Nat := 142
abbrev M_Mo_within : Nat := 143
abbrev M_Mo_isIn : Nat := 144
abbrev M_Mo_bitsOf : Nat := 145
abbrev M_Mo_init : Nat := 146
abbrev M_Mo_becomes : Nat := 147
abbrev M_Mo_undo : Nat := 148
abbrev M_Mo_redo : Nat := 149
abbrev M_Mo_isBar : Nat := 150
abbrev M_Mo_adds : Nat := 151
abbrev M_Mo_isOne : Nat := 152
abbrev M_Mo_bar : Nat := 153
abbrev M_Mo_bars : Nat := 154
abbrev M_Mo_placeOf : Nat := 155
abbrev M_Mo_greatest : Nat := 156
abbrev M_Mo_mend : Nat := 157
abbrev M_Mo_of : Nat := 158
abbrev M_Mo_feed : Nat := 159
abbrev M_Mo_byteAt : Nat := 160
abbrev M_Mo_wrongAt : Nat := 161
abbrev M_Mo_takes : Nat := 162
abbrev M_Mo_either : Nat := 163
abbrev M_Mo_both : Nat := 164
abbrev M_Mo_compared : Nat := 165
abbrev M_Mo_sums : Nat := 166
abbrev M_Mo_product : Nat := 167
abbrev M_Mo_nameOf : Nat := 168
abbrev M_Mo_one : Nat := 169
abbrev M_Mo_workOut : Nat := 170
abbrev M_Mo_law : Nat := 171
abbrev M_Mo_begins1 : Nat := 172
abbrev M_Mo_beginsBar : Nat := 173
abbrev M_Mo_comesRight : Nat := 174
abbrev M_Mo_addsFor : Nat := 175
abbrev M_Mo_gains : Nat := 176
abbrev M_Mo_plays : Nat := 177
abbrev M_Mo_nightOf : Nat := 178
abbrev M_Mo_isRight : Nat := 179
abbrev M_Mo_playing : Nat := 180
abbrev M_Mo_bytesIs : Nat := 181
abbrev M_Mo_itemAt : Nat := 182
abbrev M_Mo_isPlan : Nat := 183
abbrev M_Mo_does : Nat := 184
abbrev M_Mo_planMany : Nat := 185
abbrev M_Mo_doesPlan : Nat := 186
abbrev M_Mo_plan : Nat := 187
abbrev M_Mo_came : Nat := 188
abbrev M_Mo_rightSet : Nat := 189
abbrev M_Mo_slip : Nat := 190
abbrev M_Mo_lesson : Nat := 191
abbrev M_Mo_timesOf : Nat := 192
abbrev M_Mo_times : Nat := 193
abbrev M_Mo_stays : Nat := 194
abbrev M_Mo_findsFewest : Nat := 195
abbrev M_Mo_takes1 : Nat := 196
abbrev M_Mo_with : Nat := 197
abbrev M_Mo_spreads : Nat := 198
abbrev M_Mo_spread : Nat := 199
abbrev M_Mo_stop : Nat := 200
abbrev M_Mo_finger : Nat := 201
abbrev M_Mo_whole : Nat := 202
abbrev M_Mo_commonOf : Nat := 203
abbrev M_Mo_odds : Nat := 204
abbrev M_Mo_all : Nat := 205
abbrev M_Mo_firstFalse : Nat := 206
abbrev M_Mo_judge : Nat := 207
abbrev M_Mo_wrongFor : Nat := 208
abbrev M_Mo_fadesFor : Nat := 209
abbrev M_Mo_mayBe : Nat := 210
abbrev M_Mo_which : Nat := 211
abbrev M_Mo_loads : Nat := 212
abbrev M_Mo_keeps : Nat := 213
abbrev M_Mo_hearsDay : Nat := 214
abbrev M_Mo_hearing : Nat := 215
abbrev M_Mo_drawn : Nat := 216
abbrev M_Mo_lays : Nat := 217
abbrev M_Mo_play : Nat := 218
abbrev M_Mo_night : Nat := 219
abbrev M_Mo_thursday : Nat := 220
abbrev M_Mo_led : Nat := 221
abbrev M_Mo_image : Nat := 222
abbrev M_Mo_back : Nat := 223
abbrev M_Mo_isBody : Nat := 224
abbrev M_Mo_kindOf : Nat := 225
abbrev M_Mo_body : Nat := 226
abbrev M_Mo_above : Nat := 227
abbrev M_Mo_begins : Nat := 228
abbrev M_Mo_playsAs : Nat := 229
abbrev M_Mo_addsAs : Nat := 230
abbrev M_Mo_fadesAs : Nat := 231
abbrev M_Mo_tellsAs : Nat := 232
abbrev M_Mo_act : Nat := 233
abbrev M_Mo_trace : Nat := 234
abbrev M_Mo_isShelf : Nat := 235
abbrev M_Mo_keep : Nat := 236
abbrev M_Mo_row : Nat := 237
abbrev M_Mo_refusal : Nat := 238
abbrev M_Mo_asSort : Nat := 239
abbrev M_Mo_put : Nat := 240
abbrev M_Mo_element : Nat := 241
abbrev M_Mo_shift : Nat := 242
abbrev M_Mo_taken : Nat := 243
abbrev M_Mo_count : Nat := 244
abbrev M_Jn_bitCount : Nat := 245
abbrev M_Jm_max : Nat := 246
abbrev M_Jm_min : Nat := 247
abbrev M_Lw_law : Nat := 248
