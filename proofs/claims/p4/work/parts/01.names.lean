-- ===== PART A: goes FIRST, ahead of the names: the tables' words, and 'selects' of the private methods out of them =====
theorem tb_1 {i : Nat} {w : Cond} (h : tables_1_1[i]? = some w) : w ∈ tables_1 := by
  have h1 := List.mem_of_getElem? h
  exact List.mem_append_left _ h1
theorem tb_2 {i : Nat} {w : Cond} (h : tables_1_2[i]? = some w) : w ∈ tables_1 := by
  have h1 := List.mem_of_getElem? h
  exact List.mem_append_right _ (List.mem_append_left _ h1)
theorem tb_3 {i : Nat} {w : Cond} (h : tables_1_3[i]? = some w) : w ∈ tables_1 := by
  have h1 := List.mem_of_getElem? h
  exact List.mem_append_right _ (List.mem_append_right _ (List.mem_append_left _ h1))
theorem tb_4 {i : Nat} {w : Cond} (h : tables_1_4[i]? = some w) : w ∈ tables_1 := by
  have h1 := List.mem_of_getElem? h
  exact List.mem_append_right _ (List.mem_append_right _ (List.mem_append_right _ (List.mem_append_left _ h1)))
theorem tb_5 {i : Nat} {w : Cond} (h : tables_1_5[i]? = some w) : w ∈ tables_1 := by
  have h1 := List.mem_of_getElem? h
  exact List.mem_append_right _ (List.mem_append_right _ (List.mem_append_right _ (List.mem_append_right _ (List.mem_append_left _ h1))))
theorem tb_6 {i : Nat} {w : Cond} (h : tables_1_6[i]? = some w) : w ∈ tables_1 := by
  have h1 := List.mem_of_getElem? h
  exact List.mem_append_right _ (List.mem_append_right _ (List.mem_append_right _ (List.mem_append_right _ (List.mem_append_right _ (h1)))))
/-- a private method of a class that the tables say can be made, by its rows of tables_1 -/
def lw_okq (q : MethodName × Nat) : Prop := (q.1.cls ≠ "java/lang/invoke/MethodHandle" ∧ q.1.cls ≠ "java/lang/invoke/VarHandle") ∧ Cond.instantiable q.1.cls q.2 ∈ tables_1 ∧ Cond.privateMethod q.1 ∈ tables_1 ∧ Cond.instanceMethod q.1 ∈ tables_1
theorem lw_p0 : lw_okq (⟨"StageMachine", "deed", "(IZ)I"⟩, 7) := ⟨⟨by decide +kernel, by decide +kernel⟩, tb_1 (i := 19) (by decide +kernel), tb_2 (i := 125) (by decide +kernel), tb_2 (i := 126) (by decide +kernel)⟩
theorem lw_p1 : lw_okq (⟨"StageMachine$Turning", "isBeyond", "()Z"⟩, 3) := ⟨⟨by decide +kernel, by decide +kernel⟩, tb_1 (i := 191) (by decide +kernel), tb_3 (i := 127) (by decide +kernel), tb_3 (i := 128) (by decide +kernel)⟩
theorem lw_p2 : lw_okq (⟨"StageMachine$Turning", "isMeeting", "()Z"⟩, 3) := ⟨⟨by decide +kernel, by decide +kernel⟩, tb_1 (i := 191) (by decide +kernel), tb_3 (i := 132) (by decide +kernel), tb_3 (i := 133) (by decide +kernel)⟩
theorem lw_p3 : lw_okq (⟨"StageMachine$Turning", "isUneven", "(I)Z"⟩, 3) := ⟨⟨by decide +kernel, by decide +kernel⟩, tb_1 (i := 191) (by decide +kernel), tb_3 (i := 142) (by decide +kernel), tb_3 (i := 143) (by decide +kernel)⟩
theorem lw_p4 : lw_okq (⟨"StageMachine$Turning", "stepsToNextMove", "(II)I"⟩, 3) := ⟨⟨by decide +kernel, by decide +kernel⟩, tb_1 (i := 191) (by decide +kernel), tb_3 (i := 146) (by decide +kernel), tb_3 (i := 147) (by decide +kernel)⟩
theorem lw_p5 : lw_okq (⟨"StageMachine$Stage", "fall", "(LStageMachine$Thing;II)I"⟩, 15) := ⟨⟨by decide +kernel, by decide +kernel⟩, tb_1 (i := 116) (by decide +kernel), tb_3 (i := 192) (by decide +kernel), tb_3 (i := 193) (by decide +kernel)⟩
theorem lw_p6 : lw_okq (⟨"StageMachine$Stage", "canFall", "(LStageMachine$Thing;I)Z"⟩, 15) := ⟨⟨by decide +kernel, by decide +kernel⟩, tb_1 (i := 116) (by decide +kernel), tb_3 (i := 196) (by decide +kernel), tb_3 (i := 197) (by decide +kernel)⟩
theorem lw_p7 : lw_okq (⟨"StageMachine$Stage", "isCatch", "(II)Z"⟩, 15) := ⟨⟨by decide +kernel, by decide +kernel⟩, tb_1 (i := 116) (by decide +kernel), tb_3 (i := 200) (by decide +kernel), tb_3 (i := 201) (by decide +kernel)⟩
theorem lw_p8 : lw_okq (⟨"StageMachine$Change", "findTie", "(LStageMachine$Thing;II)Z"⟩, 9) := ⟨⟨by decide +kernel, by decide +kernel⟩, tb_1 (i := 227) (by decide +kernel), tb_3 (i := 232) (by decide +kernel), tb_3 (i := 233) (by decide +kernel)⟩
theorem lw_p9 : lw_okq (⟨"StageMachine$Change", "findDrum", "(LStageMachine$Rope;II)I"⟩, 9) := ⟨⟨by decide +kernel, by decide +kernel⟩, tb_1 (i := 227) (by decide +kernel), tb_3 (i := 237) (by decide +kernel), tb_3 (i := 238) (by decide +kernel)⟩
theorem lw_p10 : lw_okq (⟨"StageMachine$Change", "countWorks", "()V"⟩, 9) := ⟨⟨by decide +kernel, by decide +kernel⟩, tb_1 (i := 227) (by decide +kernel), tb_4 (i := 2) (by decide +kernel), tb_4 (i := 3) (by decide +kernel)⟩
theorem lw_p11 : lw_okq (⟨"StageMachine$Change", "isReady", "(LStageMachine$Rope;I)Z"⟩, 9) := ⟨⟨by decide +kernel, by decide +kernel⟩, tb_1 (i := 227) (by decide +kernel), tb_4 (i := 6) (by decide +kernel), tb_4 (i := 7) (by decide +kernel)⟩
theorem lw_p12 : lw_okq (⟨"StageMachine$Change", "works", "()I"⟩, 9) := ⟨⟨by decide +kernel, by decide +kernel⟩, tb_1 (i := 227) (by decide +kernel), tb_4 (i := 27) (by decide +kernel), tb_4 (i := 28) (by decide +kernel)⟩
theorem lw_p13 : lw_okq (⟨"StageMachine$Change", "longestWork", "()I"⟩, 9) := ⟨⟨by decide +kernel, by decide +kernel⟩, tb_1 (i := 227) (by decide +kernel), tb_4 (i := 39) (by decide +kernel), tb_4 (i := 40) (by decide +kernel)⟩
theorem lw_p14 : lw_okq (⟨"StageMachine$Change", "shareOut", "(I)I"⟩, 9) := ⟨⟨by decide +kernel, by decide +kernel⟩, tb_1 (i := 227) (by decide +kernel), tb_4 (i := 43) (by decide +kernel), tb_4 (i := 44) (by decide +kernel)⟩
theorem lw_p15 : lw_okq (⟨"StageMachine$Change", "leastShare", "(IIII)I"⟩, 9) := ⟨⟨by decide +kernel, by decide +kernel⟩, tb_1 (i := 227) (by decide +kernel), tb_4 (i := 47) (by decide +kernel), tb_4 (i := 48) (by decide +kernel)⟩
def lw_privs_1 : List (MethodName × Nat) := [(⟨"StageMachine", "deed", "(IZ)I"⟩, 7), (⟨"StageMachine$Turning", "isBeyond", "()Z"⟩, 3), (⟨"StageMachine$Turning", "isMeeting", "()Z"⟩, 3), (⟨"StageMachine$Turning", "isUneven", "(I)Z"⟩, 3), (⟨"StageMachine$Turning", "stepsToNextMove", "(II)I"⟩, 3), (⟨"StageMachine$Stage", "fall", "(LStageMachine$Thing;II)I"⟩, 15), (⟨"StageMachine$Stage", "canFall", "(LStageMachine$Thing;I)Z"⟩, 15), (⟨"StageMachine$Stage", "isCatch", "(II)Z"⟩, 15), (⟨"StageMachine$Change", "findTie", "(LStageMachine$Thing;II)Z"⟩, 9), (⟨"StageMachine$Change", "findDrum", "(LStageMachine$Rope;II)I"⟩, 9), (⟨"StageMachine$Change", "countWorks", "()V"⟩, 9), (⟨"StageMachine$Change", "isReady", "(LStageMachine$Rope;I)Z"⟩, 9), (⟨"StageMachine$Change", "works", "()I"⟩, 9), (⟨"StageMachine$Change", "longestWork", "()I"⟩, 9), (⟨"StageMachine$Change", "shareOut", "(I)I"⟩, 9), (⟨"StageMachine$Change", "leastShare", "(IIII)I"⟩, 9)]
theorem lw_r1 : ∀ q ∈ lw_privs_1, lw_okq q := List.forall_mem_cons.mpr ⟨lw_p0, List.forall_mem_cons.mpr ⟨lw_p1, List.forall_mem_cons.mpr ⟨lw_p2, List.forall_mem_cons.mpr ⟨lw_p3, List.forall_mem_cons.mpr ⟨lw_p4, List.forall_mem_cons.mpr ⟨lw_p5, List.forall_mem_cons.mpr ⟨lw_p6, List.forall_mem_cons.mpr ⟨lw_p7, List.forall_mem_cons.mpr ⟨lw_p8, List.forall_mem_cons.mpr ⟨lw_p9, List.forall_mem_cons.mpr ⟨lw_p10, List.forall_mem_cons.mpr ⟨lw_p11, List.forall_mem_cons.mpr ⟨lw_p12, List.forall_mem_cons.mpr ⟨lw_p13, List.forall_mem_cons.mpr ⟨lw_p14, List.forall_mem_cons.mpr ⟨lw_p15, fun _ h => absurd h List.not_mem_nil⟩⟩⟩⟩⟩⟩⟩⟩⟩⟩⟩⟩⟩⟩⟩⟩
theorem lw_p16 : lw_okq (⟨"StageMachine$Change", "slot", "(III)I"⟩, 9) := ⟨⟨by decide +kernel, by decide +kernel⟩, tb_1 (i := 227) (by decide +kernel), tb_4 (i := 51) (by decide +kernel), tb_4 (i := 52) (by decide +kernel)⟩
theorem lw_p17 : lw_okq (⟨"StageMachine$Change", "withWork", "(III)I"⟩, 9) := ⟨⟨by decide +kernel, by decide +kernel⟩, tb_1 (i := 227) (by decide +kernel), tb_4 (i := 55) (by decide +kernel), tb_4 (i := 56) (by decide +kernel)⟩
theorem lw_p18 : lw_okq (⟨"StageMachine$Tape", "readLine", "(I)Z"⟩, 8) := ⟨⟨by decide +kernel, by decide +kernel⟩, tb_1 (i := 27) (by decide +kernel), tb_4 (i := 78) (by decide +kernel), tb_4 (i := 79) (by decide +kernel)⟩
theorem lw_p19 : lw_okq (⟨"StageMachine$Tape", "peek", "()I"⟩, 8) := ⟨⟨by decide +kernel, by decide +kernel⟩, tb_1 (i := 27) (by decide +kernel), tb_4 (i := 82) (by decide +kernel), tb_4 (i := 83) (by decide +kernel)⟩
theorem lw_p20 : lw_okq (⟨"StageMachine$Tape", "readTwo", "(IZ)Z"⟩, 8) := ⟨⟨by decide +kernel, by decide +kernel⟩, tb_1 (i := 27) (by decide +kernel), tb_4 (i := 86) (by decide +kernel), tb_4 (i := 87) (by decide +kernel)⟩
theorem lw_p21 : lw_okq (⟨"StageMachine$Tape", "readNumber", "(Z)Z"⟩, 8) := ⟨⟨by decide +kernel, by decide +kernel⟩, tb_1 (i := 27) (by decide +kernel), tb_4 (i := 90) (by decide +kernel), tb_4 (i := 91) (by decide +kernel)⟩
theorem lw_p22 : lw_okq (⟨"StageMachine$Tape", "readSign", "(I)Z"⟩, 8) := ⟨⟨by decide +kernel, by decide +kernel⟩, tb_1 (i := 27) (by decide +kernel), tb_4 (i := 94) (by decide +kernel), tb_4 (i := 95) (by decide +kernel)⟩
theorem lw_p23 : lw_okq (⟨"StageMachine$Tape", "readOne", "(IZ)Z"⟩, 8) := ⟨⟨by decide +kernel, by decide +kernel⟩, tb_1 (i := 27) (by decide +kernel), tb_4 (i := 98) (by decide +kernel), tb_4 (i := 99) (by decide +kernel)⟩
theorem lw_p24 : lw_okq (⟨"StageMachine", "playLine", "(I)I"⟩, 7) := ⟨⟨by decide +kernel, by decide +kernel⟩, tb_1 (i := 19) (by decide +kernel), tb_4 (i := 109) (by decide +kernel), tb_4 (i := 110) (by decide +kernel)⟩
theorem lw_p25 : lw_okq (⟨"StageMachine$Candles", "burning", "()I"⟩, 4) := ⟨⟨by decide +kernel, by decide +kernel⟩, tb_1 (i := 64) (by decide +kernel), tb_4 (i := 155) (by decide +kernel), tb_4 (i := 156) (by decide +kernel)⟩
theorem lw_p26 : lw_okq (⟨"StageMachine$Candles", "leastLeft", "()I"⟩, 4) := ⟨⟨by decide +kernel, by decide +kernel⟩, tb_1 (i := 64) (by decide +kernel), tb_4 (i := 159) (by decide +kernel), tb_4 (i := 160) (by decide +kernel)⟩
theorem lw_p27 : lw_okq (⟨"StageMachine$Stock", "leastSum", "()I"⟩, 7) := ⟨⟨by decide +kernel, by decide +kernel⟩, tb_1 (i := 85) (by decide +kernel), tb_4 (i := 207) (by decide +kernel), tb_4 (i := 208) (by decide +kernel)⟩
theorem lw_p28 : lw_okq (⟨"StageMachine$Stock", "leastSumBehind", "(ILStageMachine$Panel;)I"⟩, 7) := ⟨⟨by decide +kernel, by decide +kernel⟩, tb_1 (i := 85) (by decide +kernel), tb_4 (i := 217) (by decide +kernel), tb_4 (i := 218) (by decide +kernel)⟩
theorem lw_p29 : lw_okq (⟨"StageMachine$Stock", "sumWith", "(IILStageMachine$Panel;)I"⟩, 7) := ⟨⟨by decide +kernel, by decide +kernel⟩, tb_1 (i := 85) (by decide +kernel), tb_4 (i := 221) (by decide +kernel), tb_4 (i := 222) (by decide +kernel)⟩
theorem lw_p30 : lw_okq (⟨"StageMachine$Stock", "give", "()V"⟩, 7) := ⟨⟨by decide +kernel, by decide +kernel⟩, tb_1 (i := 85) (by decide +kernel), tb_4 (i := 238) (by decide +kernel), tb_4 (i := 239) (by decide +kernel)⟩
theorem lw_p31 : lw_okq (⟨"StageMachineModel", "isThing", "(I)Z"⟩, 65) := ⟨⟨by decide +kernel, by decide +kernel⟩, tb_5 (i := 18) (by decide +kernel), tb_5 (i := 233) (by decide +kernel), tb_5 (i := 234) (by decide +kernel)⟩
def lw_privs_2 : List (MethodName × Nat) := [(⟨"StageMachine$Change", "slot", "(III)I"⟩, 9), (⟨"StageMachine$Change", "withWork", "(III)I"⟩, 9), (⟨"StageMachine$Tape", "readLine", "(I)Z"⟩, 8), (⟨"StageMachine$Tape", "peek", "()I"⟩, 8), (⟨"StageMachine$Tape", "readTwo", "(IZ)Z"⟩, 8), (⟨"StageMachine$Tape", "readNumber", "(Z)Z"⟩, 8), (⟨"StageMachine$Tape", "readSign", "(I)Z"⟩, 8), (⟨"StageMachine$Tape", "readOne", "(IZ)Z"⟩, 8), (⟨"StageMachine", "playLine", "(I)I"⟩, 7), (⟨"StageMachine$Candles", "burning", "()I"⟩, 4), (⟨"StageMachine$Candles", "leastLeft", "()I"⟩, 4), (⟨"StageMachine$Stock", "leastSum", "()I"⟩, 7), (⟨"StageMachine$Stock", "leastSumBehind", "(ILStageMachine$Panel;)I"⟩, 7), (⟨"StageMachine$Stock", "sumWith", "(IILStageMachine$Panel;)I"⟩, 7), (⟨"StageMachine$Stock", "give", "()V"⟩, 7), (⟨"StageMachineModel", "isThing", "(I)Z"⟩, 65)]
theorem lw_r2 : ∀ q ∈ lw_privs_2, lw_okq q := List.forall_mem_cons.mpr ⟨lw_p16, List.forall_mem_cons.mpr ⟨lw_p17, List.forall_mem_cons.mpr ⟨lw_p18, List.forall_mem_cons.mpr ⟨lw_p19, List.forall_mem_cons.mpr ⟨lw_p20, List.forall_mem_cons.mpr ⟨lw_p21, List.forall_mem_cons.mpr ⟨lw_p22, List.forall_mem_cons.mpr ⟨lw_p23, List.forall_mem_cons.mpr ⟨lw_p24, List.forall_mem_cons.mpr ⟨lw_p25, List.forall_mem_cons.mpr ⟨lw_p26, List.forall_mem_cons.mpr ⟨lw_p27, List.forall_mem_cons.mpr ⟨lw_p28, List.forall_mem_cons.mpr ⟨lw_p29, List.forall_mem_cons.mpr ⟨lw_p30, List.forall_mem_cons.mpr ⟨lw_p31, fun _ h => absurd h List.not_mem_nil⟩⟩⟩⟩⟩⟩⟩⟩⟩⟩⟩⟩⟩⟩⟩⟩
theorem lw_p32 : lw_okq (⟨"StageMachineModel", "tiedTo", "(I)I"⟩, 65) := ⟨⟨by decide +kernel, by decide +kernel⟩, tb_5 (i := 18) (by decide +kernel), tb_5 (i := 237) (by decide +kernel), tb_5 (i := 238) (by decide +kernel)⟩
theorem lw_p33 : lw_okq (⟨"StageMachineModel", "isRope", "(I)Z"⟩, 65) := ⟨⟨by decide +kernel, by decide +kernel⟩, tb_5 (i := 18) (by decide +kernel), tb_6 (i := 17) (by decide +kernel), tb_6 (i := 18) (by decide +kernel)⟩
theorem lw_p34 : lw_okq (⟨"StageMachineModel", "load", "(I)I"⟩, 65) := ⟨⟨by decide +kernel, by decide +kernel⟩, tb_5 (i := 18) (by decide +kernel), tb_6 (i := 22) (by decide +kernel), tb_6 (i := 23) (by decide +kernel)⟩
theorem lw_p35 : lw_okq (⟨"StageMachineModel", "tieNow", "(II)I"⟩, 65) := ⟨⟨by decide +kernel, by decide +kernel⟩, tb_5 (i := 18) (by decide +kernel), tb_6 (i := 30) (by decide +kernel), tb_6 (i := 31) (by decide +kernel)⟩
theorem lw_p36 : lw_okq (⟨"StageMachineModel", "isDrum", "(I)Z"⟩, 65) := ⟨⟨by decide +kernel, by decide +kernel⟩, tb_5 (i := 18) (by decide +kernel), tb_6 (i := 34) (by decide +kernel), tb_6 (i := 35) (by decide +kernel)⟩
theorem lw_p37 : lw_okq (⟨"StageMachineModel", "untieNow", "(I)I"⟩, 65) := ⟨⟨by decide +kernel, by decide +kernel⟩, tb_5 (i := 18) (by decide +kernel), tb_6 (i := 42) (by decide +kernel), tb_6 (i := 43) (by decide +kernel)⟩
theorem lw_p38 : lw_okq (⟨"StageMachineModel", "weighNow", "(II)I"⟩, 65) := ⟨⟨by decide +kernel, by decide +kernel⟩, tb_5 (i := 18) (by decide +kernel), tb_6 (i := 50) (by decide +kernel), tb_6 (i := 51) (by decide +kernel)⟩
theorem lw_p39 : lw_okq (⟨"StageMachineModel", "turnNow", "(I)I"⟩, 65) := ⟨⟨by decide +kernel, by decide +kernel⟩, tb_5 (i := 18) (by decide +kernel), tb_6 (i := 69) (by decide +kernel), tb_6 (i := 70) (by decide +kernel)⟩
theorem lw_p40 : lw_okq (⟨"StageMachineModel", "place", "(I)V"⟩, 65) := ⟨⟨by decide +kernel, by decide +kernel⟩, tb_5 (i := 18) (by decide +kernel), tb_6 (i := 73) (by decide +kernel), tb_6 (i := 74) (by decide +kernel)⟩
theorem lw_p41 : lw_okq (⟨"StageMachineModel", "find", "()V"⟩, 65) := ⟨⟨by decide +kernel, by decide +kernel⟩, tb_5 (i := 18) (by decide +kernel), tb_6 (i := 77) (by decide +kernel), tb_6 (i := 78) (by decide +kernel)⟩
theorem lw_p42 : lw_okq (⟨"StageMachineModel", "other", "(II)I"⟩, 65) := ⟨⟨by decide +kernel, by decide +kernel⟩, tb_5 (i := 18) (by decide +kernel), tb_6 (i := 81) (by decide +kernel), tb_6 (i := 82) (by decide +kernel)⟩
theorem lw_p43 : lw_okq (⟨"StageMachineModel", "meets", "(III)Z"⟩, 65) := ⟨⟨by decide +kernel, by decide +kernel⟩, tb_5 (i := 18) (by decide +kernel), tb_6 (i := 85) (by decide +kernel), tb_6 (i := 86) (by decide +kernel)⟩
theorem lw_p44 : lw_okq (⟨"StageMachineModel", "isCaught", "(II)Z"⟩, 65) := ⟨⟨by decide +kernel, by decide +kernel⟩, tb_5 (i := 18) (by decide +kernel), tb_6 (i := 102) (by decide +kernel), tb_6 (i := 103) (by decide +kernel)⟩
theorem lw_p45 : lw_okq (⟨"StageMachineModel", "brings", "(III)Z"⟩, 65) := ⟨⟨by decide +kernel, by decide +kernel⟩, tb_5 (i := 18) (by decide +kernel), tb_6 (i := 118) (by decide +kernel), tb_6 (i := 119) (by decide +kernel)⟩
theorem lw_p46 : lw_okq (⟨"StageMachineModel", "workOf", "(I)I"⟩, 65) := ⟨⟨by decide +kernel, by decide +kernel⟩, tb_5 (i := 18) (by decide +kernel), tb_6 (i := 122) (by decide +kernel), tb_6 (i := 123) (by decide +kernel)⟩
theorem lw_p47 : lw_okq (⟨"StageMachineModel", "menFor", "(IIII)I"⟩, 65) := ⟨⟨by decide +kernel, by decide +kernel⟩, tb_5 (i := 18) (by decide +kernel), tb_6 (i := 138) (by decide +kernel), tb_6 (i := 139) (by decide +kernel)⟩
def lw_privs_3 : List (MethodName × Nat) := [(⟨"StageMachineModel", "tiedTo", "(I)I"⟩, 65), (⟨"StageMachineModel", "isRope", "(I)Z"⟩, 65), (⟨"StageMachineModel", "load", "(I)I"⟩, 65), (⟨"StageMachineModel", "tieNow", "(II)I"⟩, 65), (⟨"StageMachineModel", "isDrum", "(I)Z"⟩, 65), (⟨"StageMachineModel", "untieNow", "(I)I"⟩, 65), (⟨"StageMachineModel", "weighNow", "(II)I"⟩, 65), (⟨"StageMachineModel", "turnNow", "(I)I"⟩, 65), (⟨"StageMachineModel", "place", "(I)V"⟩, 65), (⟨"StageMachineModel", "find", "()V"⟩, 65), (⟨"StageMachineModel", "other", "(II)I"⟩, 65), (⟨"StageMachineModel", "meets", "(III)Z"⟩, 65), (⟨"StageMachineModel", "isCaught", "(II)Z"⟩, 65), (⟨"StageMachineModel", "brings", "(III)Z"⟩, 65), (⟨"StageMachineModel", "workOf", "(I)I"⟩, 65), (⟨"StageMachineModel", "menFor", "(IIII)I"⟩, 65)]
theorem lw_r3 : ∀ q ∈ lw_privs_3, lw_okq q := List.forall_mem_cons.mpr ⟨lw_p32, List.forall_mem_cons.mpr ⟨lw_p33, List.forall_mem_cons.mpr ⟨lw_p34, List.forall_mem_cons.mpr ⟨lw_p35, List.forall_mem_cons.mpr ⟨lw_p36, List.forall_mem_cons.mpr ⟨lw_p37, List.forall_mem_cons.mpr ⟨lw_p38, List.forall_mem_cons.mpr ⟨lw_p39, List.forall_mem_cons.mpr ⟨lw_p40, List.forall_mem_cons.mpr ⟨lw_p41, List.forall_mem_cons.mpr ⟨lw_p42, List.forall_mem_cons.mpr ⟨lw_p43, List.forall_mem_cons.mpr ⟨lw_p44, List.forall_mem_cons.mpr ⟨lw_p45, List.forall_mem_cons.mpr ⟨lw_p46, List.forall_mem_cons.mpr ⟨lw_p47, fun _ h => absurd h List.not_mem_nil⟩⟩⟩⟩⟩⟩⟩⟩⟩⟩⟩⟩⟩⟩⟩⟩
theorem lw_p48 : lw_okq (⟨"StageMachineModel", "line", "()Z"⟩, 65) := ⟨⟨by decide +kernel, by decide +kernel⟩, tb_5 (i := 18) (by decide +kernel), tb_6 (i := 150) (by decide +kernel), tb_6 (i := 151) (by decide +kernel)⟩
theorem lw_p49 : lw_okq (⟨"StageMachineModel", "look", "()I"⟩, 65) := ⟨⟨by decide +kernel, by decide +kernel⟩, tb_5 (i := 18) (by decide +kernel), tb_6 (i := 154) (by decide +kernel), tb_6 (i := 155) (by decide +kernel)⟩
theorem lw_p50 : lw_okq (⟨"StageMachineModel", "takes", "(Z)Z"⟩, 65) := ⟨⟨by decide +kernel, by decide +kernel⟩, tb_5 (i := 18) (by decide +kernel), tb_6 (i := 158) (by decide +kernel), tb_6 (i := 159) (by decide +kernel)⟩
theorem lw_p51 : lw_okq (⟨"StageMachineModel", "keep", "()V"⟩, 65) := ⟨⟨by decide +kernel, by decide +kernel⟩, tb_5 (i := 18) (by decide +kernel), tb_6 (i := 162) (by decide +kernel), tb_6 (i := 163) (by decide +kernel)⟩
theorem lw_p52 : lw_okq (⟨"StageMachineModel", "left", "(I)I"⟩, 65) := ⟨⟨by decide +kernel, by decide +kernel⟩, tb_5 (i := 18) (by decide +kernel), tb_6 (i := 182) (by decide +kernel), tb_6 (i := 183) (by decide +kernel)⟩
theorem lw_p53 : lw_okq (⟨"StageMachineModel", "cost", "(II)I"⟩, 65) := ⟨⟨by decide +kernel, by decide +kernel⟩, tb_5 (i := 18) (by decide +kernel), tb_6 (i := 205) (by decide +kernel), tb_6 (i := 206) (by decide +kernel)⟩
theorem lw_p54 : lw_okq (⟨"StageMachineModel", "isTaken", "(I)Z"⟩, 65) := ⟨⟨by decide +kernel, by decide +kernel⟩, tb_5 (i := 18) (by decide +kernel), tb_6 (i := 212) (by decide +kernel), tb_6 (i := 213) (by decide +kernel)⟩
theorem lw_p55 : lw_okq (⟨"StageMachineModel", "costTo", "(I)I"⟩, 65) := ⟨⟨by decide +kernel, by decide +kernel⟩, tb_5 (i := 18) (by decide +kernel), tb_6 (i := 216) (by decide +kernel), tb_6 (i := 217) (by decide +kernel)⟩
def lw_privs_4 : List (MethodName × Nat) := [(⟨"StageMachineModel", "line", "()Z"⟩, 65), (⟨"StageMachineModel", "look", "()I"⟩, 65), (⟨"StageMachineModel", "takes", "(Z)Z"⟩, 65), (⟨"StageMachineModel", "keep", "()V"⟩, 65), (⟨"StageMachineModel", "left", "(I)I"⟩, 65), (⟨"StageMachineModel", "cost", "(II)I"⟩, 65), (⟨"StageMachineModel", "isTaken", "(I)Z"⟩, 65), (⟨"StageMachineModel", "costTo", "(I)I"⟩, 65)]
theorem lw_r4 : ∀ q ∈ lw_privs_4, lw_okq q := List.forall_mem_cons.mpr ⟨lw_p48, List.forall_mem_cons.mpr ⟨lw_p49, List.forall_mem_cons.mpr ⟨lw_p50, List.forall_mem_cons.mpr ⟨lw_p51, List.forall_mem_cons.mpr ⟨lw_p52, List.forall_mem_cons.mpr ⟨lw_p53, List.forall_mem_cons.mpr ⟨lw_p54, List.forall_mem_cons.mpr ⟨lw_p55, fun _ h => absurd h List.not_mem_nil⟩⟩⟩⟩⟩⟩⟩⟩
def lw_privs : List (MethodName × Nat) := lw_privs_1 ++ (lw_privs_2 ++ (lw_privs_3 ++ (lw_privs_4)))
def lw_tbl : List Cond := k2_sels lw_privs ++ tables_1
theorem lw_privs_ok : ∀ q ∈ lw_privs, lw_okq q := by
  show ∀ q ∈ lw_privs_1 ++ (lw_privs_2 ++ (lw_privs_3 ++ (lw_privs_4))), lw_okq q
  exact List.forall_mem_append.mpr ⟨lw_r1, List.forall_mem_append.mpr ⟨lw_r2, List.forall_mem_append.mpr ⟨lw_r3, lw_r4⟩⟩⟩
-- ===== end of PART A; then your names; then what follows =====
def RX0 : String := "StageMachine$Candles"
def TX0 : u_T := fun k => match k with
  | 0 => ("StageMachine$Candles", "lengths", "[I", true)
  | 1 => ("StageMachine$Candles", "ends", "[I", true)
  | 2 => ("StageMachine$Candles", "number", "I", false)
  | _ => ("StageMachine$Candles", "time", "I", false)
def tyX0 : Nat → FieldType := fun k => match k with
  | 0 => .array .int
  | 1 => .array .int
  | 2 => .int
  | _ => .int
abbrev wsX00 : List Cond := u_ws RX0 TX0 4
theorem nmX0 : ∀ a, a < 4 → ∀ b, b < 4 → a ≠ b → (TX0 a).2.1 ≠ (TX0 b).2.1 := by decide +kernel
theorem tyX0_ok : ∀ k, k < 4 → parseFieldDescriptor (TX0 k).2.2.1 = some (tyX0 k) := by decide +kernel
abbrev cX0_init : ByteArray := prog_2_method_1_code
def yX0_init : MethodName := ⟨RX0, "<init>", "()V"⟩
abbrev cX0_add : ByteArray := prog_2_method_2_code
def yX0_add : MethodName := ⟨RX0, "add", "(I)I"⟩
abbrev cX0_pass : ByteArray := prog_2_method_3_code
def yX0_pass : MethodName := ⟨RX0, "pass", "(I)I"⟩
abbrev cX0_renew : ByteArray := prog_2_method_4_code
def yX0_renew : MethodName := ⟨RX0, "renew", "(I)I"⟩
abbrev cX0_tell : ByteArray := prog_2_method_5_code
def yX0_tell : MethodName := ⟨RX0, "tell", "(I)I"⟩
abbrev cX0_burning : ByteArray := prog_2_method_6_code
def yX0_burning : MethodName := ⟨RX0, "burning", "()I"⟩
abbrev cX0_leastLeft : ByteArray := prog_2_method_7_code
def yX0_leastLeft : MethodName := ⟨RX0, "leastLeft", "()I"⟩
def RX1 : String := "StageMachine$Change"
def TX1 : u_T := fun k => match k with
  | 0 => ("StageMachine$Change", "stage", "LStageMachine$Stage;", true)
  | 1 => ("StageMachine$Change", "ropes", "[I", true)
  | 2 => ("StageMachine$Change", "drums", "[I", true)
  | 3 => ("StageMachine$Change", "shares", "[I", true)
  | 4 => ("StageMachine$Change", "asked", "Z", false)
  | 5 => ("StageMachine$Change", "found", "Z", false)
  | 6 => ("StageMachine$Change", "twos", "I", false)
  | 7 => ("StageMachine$Change", "threes", "I", false)
  | _ => ("StageMachine$Change", "fives", "I", false)
def tyX1 : Nat → FieldType := fun k => match k with
  | 0 => .object "StageMachine$Stage"
  | 1 => .array .int
  | 2 => .array .int
  | 3 => .array .int
  | 4 => .boolean
  | 5 => .boolean
  | 6 => .int
  | 7 => .int
  | _ => .int
abbrev wsX10 : List Cond := u_ws RX1 TX1 9
theorem nmX1 : ∀ a, a < 9 → ∀ b, b < 9 → a ≠ b → (TX1 a).2.1 ≠ (TX1 b).2.1 := by decide +kernel
theorem tyX1_ok : ∀ k, k < 9 → parseFieldDescriptor (TX1 k).2.2.1 = some (tyX1 k) := by decide +kernel
abbrev cX1_init : ByteArray := prog_3_method_1_code
def yX1_init : MethodName := ⟨RX1, "<init>", "(LStageMachine$Stage;)V"⟩
abbrev cX1_plan : ByteArray := prog_3_method_2_code
def yX1_plan : MethodName := ⟨RX1, "plan", "(II)I"⟩
abbrev cX1_findTie : ByteArray := prog_3_method_3_code
def yX1_findTie : MethodName := ⟨RX1, "findTie", "(LStageMachine$Thing;II)Z"⟩
abbrev cX1_findDrum : ByteArray := prog_3_method_4_code
def yX1_findDrum : MethodName := ⟨RX1, "findDrum", "(LStageMachine$Rope;II)I"⟩
abbrev cX1_countWorks : ByteArray := prog_3_method_5_code
def yX1_countWorks : MethodName := ⟨RX1, "countWorks", "()V"⟩
abbrev cX1_isReady : ByteArray := prog_3_method_6_code
def yX1_isReady : MethodName := ⟨RX1, "isReady", "(LStageMachine$Rope;I)Z"⟩
abbrev cX1_tieOf : ByteArray := prog_3_method_7_code
def yX1_tieOf : MethodName := ⟨RX1, "tieOf", "(II)I"⟩
abbrev cX1_workFor : ByteArray := prog_3_method_8_code
def yX1_workFor : MethodName := ⟨RX1, "workFor", "(I)I"⟩
abbrev cX1_works : ByteArray := prog_3_method_9_code
def yX1_works : MethodName := ⟨RX1, "works", "()I"⟩
abbrev cX1_leastMen : ByteArray := prog_3_method_10_code
def yX1_leastMen : MethodName := ⟨RX1, "leastMen", "(I)I"⟩
abbrev cX1_longestWork : ByteArray := prog_3_method_11_code
def yX1_longestWork : MethodName := ⟨RX1, "longestWork", "()I"⟩
abbrev cX1_shareOut : ByteArray := prog_3_method_12_code
def yX1_shareOut : MethodName := ⟨RX1, "shareOut", "(I)I"⟩
abbrev cX1_leastShare : ByteArray := prog_3_method_13_code
def yX1_leastShare : MethodName := ⟨RX1, "leastShare", "(IIII)I"⟩
abbrev cX1_withWork : ByteArray := prog_3_method_14_code
def yX1_withWork : MethodName := ⟨RX1, "withWork", "(III)I"⟩
abbrev cX1_slot : ByteArray := prog_3_method_15_code
def yX1_slot : MethodName := ⟨RX1, "slot", "(III)I"⟩
def RX2 : String := "StageMachine$Drum"
def TX2 : u_T := fun k => match k with
  | 0 => ("StageMachine$Drum", "number", "I", true)
  | _ => ("StageMachine$Drum", "size", "I", true)
def tyX2 : Nat → FieldType := fun k => match k with
  | 0 => .int
  | _ => .int
abbrev wsX20 : List Cond := u_ws RX2 TX2 2
theorem nmX2 : ∀ a, a < 2 → ∀ b, b < 2 → a ≠ b → (TX2 a).2.1 ≠ (TX2 b).2.1 := by decide +kernel
theorem tyX2_ok : ∀ k, k < 2 → parseFieldDescriptor (TX2 k).2.2.1 = some (tyX2 k) := by decide +kernel
abbrev cX2_init : ByteArray := prog_4_method_1_code
def yX2_init : MethodName := ⟨RX2, "<init>", "(II)V"⟩
def RX3 : String := "StageMachine$Panel"
def TX3 : u_T := fun k => match k with
  | 0 => ("StageMachine$Panel", "height", "I", true)
  | 1 => ("StageMachine$Panel", "width", "I", true)
  | _ => ("StageMachine$Panel", "paint", "I", true)
def tyX3 : Nat → FieldType := fun k => match k with
  | 0 => .int
  | 1 => .int
  | _ => .int
abbrev wsX30 : List Cond := u_ws RX3 TX3 3
theorem nmX3 : ∀ a, a < 3 → ∀ b, b < 3 → a ≠ b → (TX3 a).2.1 ≠ (TX3 b).2.1 := by decide +kernel
theorem tyX3_ok : ∀ k, k < 3 → parseFieldDescriptor (TX3 k).2.2.1 = some (tyX3 k) := by decide +kernel
abbrev cX3_init : ByteArray := prog_5_method_1_code
def yX3_init : MethodName := ⟨RX3, "<init>", "(II)V"⟩
abbrev cX3_area : ByteArray := prog_5_method_2_code
def yX3_area : MethodName := ⟨RX3, "area", "()I"⟩
abbrev cX3_serves : ByteArray := prog_5_method_3_code
def yX3_serves : MethodName := ⟨RX3, "serves", "(LStageMachine$Panel;)Z"⟩
abbrev cX3_priceFor : ByteArray := prog_5_method_4_code
def yX3_priceFor : MethodName := ⟨RX3, "priceFor", "(LStageMachine$Panel;)I"⟩
def RX4 : String := "StageMachine$Rope"
def TX4 : u_T := fun k => match k with
  | 0 => ("StageMachine$Rope", "number", "I", true)
  | 1 => ("StageMachine$Rope", "thing", "LStageMachine$Thing;", true)
  | 2 => ("StageMachine$Rope", "way", "I", true)
  | 3 => ("StageMachine$Rope", "gear", "I", true)
  | 4 => ("StageMachine$Rope", "holds", "I", true)
  | 5 => ("StageMachine$Rope", "drum", "LStageMachine$Drum;", false)
  | 6 => ("StageMachine$Rope", "start", "I", false)
  | 7 => ("StageMachine$Rope", "done", "I", false)
  | 8 => ("StageMachine$Rope", "gone", "Z", false)
  | 9 => ("StageMachine$Rope", "keptDrum", "LStageMachine$Drum;", false)
  | 10 => ("StageMachine$Rope", "keptStart", "I", false)
  | _ => ("StageMachine$Rope", "keptDone", "I", false)
def tyX4 : Nat → FieldType := fun k => match k with
  | 0 => .int
  | 1 => .object "StageMachine$Thing"
  | 2 => .int
  | 3 => .int
  | 4 => .int
  | 5 => .object "StageMachine$Drum"
  | 6 => .int
  | 7 => .int
  | 8 => .boolean
  | 9 => .object "StageMachine$Drum"
  | 10 => .int
  | _ => .int
abbrev wsX40 : List Cond := u_ws RX4 TX4 12
theorem nmX4 : ∀ a, a < 12 → ∀ b, b < 12 → a ≠ b → (TX4 a).2.1 ≠ (TX4 b).2.1 := by decide +kernel
theorem tyX4_ok : ∀ k, k < 12 → parseFieldDescriptor (TX4 k).2.2.1 = some (tyX4 k) := by decide +kernel
abbrev cX4_init : ByteArray := prog_6_method_1_code
def yX4_init : MethodName := ⟨RX4, "<init>", "(ILStageMachine$Thing;III)V"⟩
abbrev cX4_tell : ByteArray := prog_6_method_2_code
def yX4_tell : MethodName := ⟨RX4, "tell", "(I)I"⟩
abbrev cX4_load : ByteArray := prog_6_method_3_code
def yX4_load : MethodName := ⟨RX4, "load", "()I"⟩
abbrev cX4_spare : ByteArray := prog_6_method_4_code
def yX4_spare : MethodName := ⟨RX4, "spare", "()I"⟩
abbrev cX4_placeFrom : ByteArray := prog_6_method_5_code
def yX4_placeFrom : MethodName := ⟨RX4, "placeFrom", "(II)I"⟩
abbrev cX4_doneAfter : ByteArray := prog_6_method_6_code
def yX4_doneAfter : MethodName := ⟨RX4, "doneAfter", "(I)I"⟩
abbrev cX4_pullAt : ByteArray := prog_6_method_7_code
def yX4_pullAt : MethodName := ⟨RX4, "pullAt", "(I)I"⟩
abbrev cX4_stepsToNextPlace : ByteArray := prog_6_method_8_code
def yX4_stepsToNextPlace : MethodName := ⟨RX4, "stepsToNextPlace", "(II)I"⟩
abbrev cX4_advance : ByteArray := prog_6_method_9_code
def yX4_advance : MethodName := ⟨RX4, "advance", "(I)V"⟩
abbrev cX4_bind : ByteArray := prog_6_method_10_code
def yX4_bind : MethodName := ⟨RX4, "bind", "(LStageMachine$Drum;)V"⟩
abbrev cX4_loosen : ByteArray := prog_6_method_11_code
def yX4_loosen : MethodName := ⟨RX4, "loosen", "()V"⟩
def RX5 : String := "StageMachine$Stage"
def TX5 : u_T := fun k => match k with
  | 0 => ("StageMachine$Stage", "things", "[LStageMachine$Thing;", true)
  | 1 => ("StageMachine$Stage", "drums", "[LStageMachine$Drum;", true)
  | 2 => ("StageMachine$Stage", "ropes", "[LStageMachine$Rope;", true)
  | 3 => ("StageMachine$Stage", "weights", "[I", true)
  | 4 => ("StageMachine$Stage", "keptWeights", "[I", true)
  | 5 => ("StageMachine$Stage", "catches", "[I", true)
  | 6 => ("StageMachine$Stage", "catchCounts", "[I", true)
  | 7 => ("StageMachine$Stage", "thingCount", "I", false)
  | 8 => ("StageMachine$Stage", "drumCount", "I", false)
  | 9 => ("StageMachine$Stage", "ropeCount", "I", false)
  | 10 => ("StageMachine$Stage", "bound", "I", false)
  | 11 => ("StageMachine$Stage", "shaft", "I", false)
  | 12 => ("StageMachine$Stage", "wear", "I", false)
  | 13 => ("StageMachine$Stage", "keptShaft", "I", false)
  | _ => ("StageMachine$Stage", "keptWear", "I", false)
def tyX5 : Nat → FieldType := fun k => match k with
  | 0 => .array (.object "StageMachine$Thing")
  | 1 => .array (.object "StageMachine$Drum")
  | 2 => .array (.object "StageMachine$Rope")
  | 3 => .array .int
  | 4 => .array .int
  | 5 => .array .int
  | 6 => .array .int
  | 7 => .int
  | 8 => .int
  | 9 => .int
  | 10 => .int
  | 11 => .int
  | 12 => .int
  | 13 => .int
  | _ => .int
abbrev wsX50 : List Cond := u_ws RX5 TX5 15
theorem nmX5 : ∀ a, a < 15 → ∀ b, b < 15 → a ≠ b → (TX5 a).2.1 ≠ (TX5 b).2.1 := by decide +kernel
theorem tyX5_ok : ∀ k, k < 15 → parseFieldDescriptor (TX5 k).2.2.1 = some (tyX5 k) := by decide +kernel
abbrev cX5_init : ByteArray := prog_7_method_1_code
def yX5_init : MethodName := ⟨RX5, "<init>", "()V"⟩
abbrev cX5_thingNumbered : ByteArray := prog_7_method_2_code
def yX5_thingNumbered : MethodName := ⟨RX5, "thingNumbered", "(I)LStageMachine$Thing;"⟩
abbrev cX5_drumNumbered : ByteArray := prog_7_method_3_code
def yX5_drumNumbered : MethodName := ⟨RX5, "drumNumbered", "(I)LStageMachine$Drum;"⟩
abbrev cX5_ropeNumbered : ByteArray := prog_7_method_4_code
def yX5_ropeNumbered : MethodName := ⟨RX5, "ropeNumbered", "(I)LStageMachine$Rope;"⟩
abbrev cX5_addThing : ByteArray := prog_7_method_5_code
def yX5_addThing : MethodName := ⟨RX5, "addThing", "(IIII)I"⟩
abbrev cX5_addDrum : ByteArray := prog_7_method_6_code
def yX5_addDrum : MethodName := ⟨RX5, "addDrum", "(I)I"⟩
abbrev cX5_addRope : ByteArray := prog_7_method_7_code
def yX5_addRope : MethodName := ⟨RX5, "addRope", "(III)I"⟩
abbrev cX5_standingOn : ByteArray := prog_7_method_8_code
def yX5_standingOn : MethodName := ⟨RX5, "standingOn", "(I)I"⟩
abbrev cX5_isClear : ByteArray := prog_7_method_9_code
def yX5_isClear : MethodName := ⟨RX5, "isClear", "(LStageMachine$Thing;III)Z"⟩
abbrev cX5_tieRope : ByteArray := prog_7_method_10_code
def yX5_tieRope : MethodName := ⟨RX5, "tieRope", "(II)I"⟩
abbrev cX5_untieRope : ByteArray := prog_7_method_11_code
def yX5_untieRope : MethodName := ⟨RX5, "untieRope", "(I)I"⟩
abbrev cX5_tiedCount : ByteArray := prog_7_method_12_code
def yX5_tiedCount : MethodName := ⟨RX5, "tiedCount", "()I"⟩
abbrev cX5_setWeight : ByteArray := prog_7_method_13_code
def yX5_setWeight : MethodName := ⟨RX5, "setWeight", "(II)I"⟩
abbrev cX5_setBound : ByteArray := prog_7_method_14_code
def yX5_setBound : MethodName := ⟨RX5, "setBound", "(I)I"⟩
abbrev cX5_pullNow : ByteArray := prog_7_method_15_code
def yX5_pullNow : MethodName := ⟨RX5, "pullNow", "()I"⟩
abbrev cX5_place : ByteArray := prog_7_method_16_code
def yX5_place : MethodName := ⟨RX5, "place", "(I)V"⟩
abbrev cX5_trialPull : ByteArray := prog_7_method_17_code
def yX5_trialPull : MethodName := ⟨RX5, "trialPull", "()I"⟩
abbrev cX5_advance : ByteArray := prog_7_method_18_code
def yX5_advance : MethodName := ⟨RX5, "advance", "(I)V"⟩
abbrev cX5_breakRope : ByteArray := prog_7_method_19_code
def yX5_breakRope : MethodName := ⟨RX5, "breakRope", "(I)I"⟩
abbrev cX5_fall : ByteArray := prog_7_method_20_code
def yX5_fall : MethodName := ⟨RX5, "fall", "(LStageMachine$Thing;II)I"⟩
abbrev cX5_canFall : ByteArray := prog_7_method_21_code
def yX5_canFall : MethodName := ⟨RX5, "canFall", "(LStageMachine$Thing;I)Z"⟩
abbrev cX5_isCatch : ByteArray := prog_7_method_22_code
def yX5_isCatch : MethodName := ⟨RX5, "isCatch", "(II)Z"⟩
abbrev cX5_addCatch : ByteArray := prog_7_method_23_code
def yX5_addCatch : MethodName := ⟨RX5, "addCatch", "(I)I"⟩
abbrev cX5_isStagePlace : ByteArray := prog_7_method_24_code
def yX5_isStagePlace : MethodName := ⟨RX5, "isStagePlace", "(I)Z"⟩
abbrev cX5_keep : ByteArray := prog_7_method_25_code
def yX5_keep : MethodName := ⟨RX5, "keep", "()V"⟩
abbrev cX5_restore : ByteArray := prog_7_method_26_code
def yX5_restore : MethodName := ⟨RX5, "restore", "()V"⟩
def RX6 : String := "StageMachine$Stock"
def TX6 : u_T := fun k => match k with
  | 0 => ("StageMachine$Stock", "flats", "[LStageMachine$Panel;", true)
  | 1 => ("StageMachine$Stock", "wants", "[LStageMachine$Panel;", true)
  | 2 => ("StageMachine$Stock", "givenFlats", "[I", true)
  | 3 => ("StageMachine$Stock", "sums", "[I", true)
  | 4 => ("StageMachine$Stock", "flatCount", "I", false)
  | 5 => ("StageMachine$Stock", "wantCount", "I", false)
  | _ => ("StageMachine$Stock", "givenCount", "I", false)
def tyX6 : Nat → FieldType := fun k => match k with
  | 0 => .array (.object "StageMachine$Panel")
  | 1 => .array (.object "StageMachine$Panel")
  | 2 => .array .int
  | 3 => .array .int
  | 4 => .int
  | 5 => .int
  | _ => .int
abbrev wsX60 : List Cond := u_ws RX6 TX6 7
theorem nmX6 : ∀ a, a < 7 → ∀ b, b < 7 → a ≠ b → (TX6 a).2.1 ≠ (TX6 b).2.1 := by decide +kernel
theorem tyX6_ok : ∀ k, k < 7 → parseFieldDescriptor (TX6 k).2.2.1 = some (tyX6 k) := by decide +kernel
abbrev cX6_init : ByteArray := prog_8_method_1_code
def yX6_init : MethodName := ⟨RX6, "<init>", "()V"⟩
abbrev cX6_addFlat : ByteArray := prog_8_method_2_code
def yX6_addFlat : MethodName := ⟨RX6, "addFlat", "(II)I"⟩
abbrev cX6_addWant : ByteArray := prog_8_method_3_code
def yX6_addWant : MethodName := ⟨RX6, "addWant", "(II)I"⟩
abbrev cX6_isPanel : ByteArray := prog_8_method_4_code
def yX6_isPanel : MethodName := ⟨RX6, "isPanel", "(II)Z"⟩
abbrev cX6_leastPainting : ByteArray := prog_8_method_5_code
def yX6_leastPainting : MethodName := ⟨RX6, "leastPainting", "()I"⟩
abbrev cX6_leastSum : ByteArray := prog_8_method_6_code
def yX6_leastSum : MethodName := ⟨RX6, "leastSum", "()I"⟩
abbrev cX6_leastSumBehind : ByteArray := prog_8_method_7_code
def yX6_leastSumBehind : MethodName := ⟨RX6, "leastSumBehind", "(ILStageMachine$Panel;)I"⟩
abbrev cX6_sumWith : ByteArray := prog_8_method_8_code
def yX6_sumWith : MethodName := ⟨RX6, "sumWith", "(IILStageMachine$Panel;)I"⟩
abbrev cX6_give : ByteArray := prog_8_method_9_code
def yX6_give : MethodName := ⟨RX6, "give", "()V"⟩
abbrev cX6_givenTo : ByteArray := prog_8_method_10_code
def yX6_givenTo : MethodName := ⟨RX6, "givenTo", "(I)I"⟩
def RX7 : String := "StageMachine$Stop"
def TX7 : u_T := fun k => match k with
  | 0 => ("StageMachine$Stop", "kind", "I", false)
  | 1 => ("StageMachine$Stop", "thing", "I", false)
  | _ => ("StageMachine$Stop", "other", "I", false)
def tyX7 : Nat → FieldType := fun k => match k with
  | 0 => .int
  | 1 => .int
  | _ => .int
abbrev wsX70 : List Cond := u_ws RX7 TX7 3
theorem nmX7 : ∀ a, a < 3 → ∀ b, b < 3 → a ≠ b → (TX7 a).2.1 ≠ (TX7 b).2.1 := by decide +kernel
theorem tyX7_ok : ∀ k, k < 3 → parseFieldDescriptor (TX7 k).2.2.1 = some (tyX7 k) := by decide +kernel
abbrev cX7_init : ByteArray := prog_9_method_1_code
def yX7_init : MethodName := ⟨RX7, "<init>", "()V"⟩
abbrev cX7_put : ByteArray := prog_9_method_2_code
def yX7_put : MethodName := ⟨RX7, "put", "(III)V"⟩
abbrev cX7_tell : ByteArray := prog_9_method_3_code
def yX7_tell : MethodName := ⟨RX7, "tell", "(I)I"⟩
def RX8 : String := "StageMachine$Tape"
def TX8 : u_T := fun k => match k with
  | 0 => ("StageMachine$Tape", "bytes", "[I", true)
  | 1 => ("StageMachine$Tape", "letters", "[I", true)
  | 2 => ("StageMachine$Tape", "firsts", "[I", true)
  | 3 => ("StageMachine$Tape", "seconds", "[I", true)
  | 4 => ("StageMachine$Tape", "length", "I", false)
  | 5 => ("StageMachine$Tape", "lineCount", "I", false)
  | 6 => ("StageMachine$Tape", "next", "I", false)
  | _ => ("StageMachine$Tape", "number", "I", false)
def tyX8 : Nat → FieldType := fun k => match k with
  | 0 => .array .int
  | 1 => .array .int
  | 2 => .array .int
  | 3 => .array .int
  | 4 => .int
  | 5 => .int
  | 6 => .int
  | _ => .int
abbrev wsX80 : List Cond := u_ws RX8 TX8 8
theorem nmX8 : ∀ a, a < 8 → ∀ b, b < 8 → a ≠ b → (TX8 a).2.1 ≠ (TX8 b).2.1 := by decide +kernel
theorem tyX8_ok : ∀ k, k < 8 → parseFieldDescriptor (TX8 k).2.2.1 = some (tyX8 k) := by decide +kernel
abbrev cX8_init : ByteArray := prog_10_method_1_code
def yX8_init : MethodName := ⟨RX8, "<init>", "()V"⟩
abbrev cX8_take : ByteArray := prog_10_method_2_code
def yX8_take : MethodName := ⟨RX8, "take", "(II)I"⟩
abbrev cX8_readLines : ByteArray := prog_10_method_3_code
def yX8_readLines : MethodName := ⟨RX8, "readLines", "()I"⟩
abbrev cX8_readLine : ByteArray := prog_10_method_4_code
def yX8_readLine : MethodName := ⟨RX8, "readLine", "(I)Z"⟩
abbrev cX8_readOne : ByteArray := prog_10_method_5_code
def yX8_readOne : MethodName := ⟨RX8, "readOne", "(IZ)Z"⟩
abbrev cX8_readTwo : ByteArray := prog_10_method_6_code
def yX8_readTwo : MethodName := ⟨RX8, "readTwo", "(IZ)Z"⟩
abbrev cX8_readNumber : ByteArray := prog_10_method_7_code
def yX8_readNumber : MethodName := ⟨RX8, "readNumber", "(Z)Z"⟩
abbrev cX8_readSign : ByteArray := prog_10_method_8_code
def yX8_readSign : MethodName := ⟨RX8, "readSign", "(I)Z"⟩
abbrev cX8_peek : ByteArray := prog_10_method_9_code
def yX8_peek : MethodName := ⟨RX8, "peek", "()I"⟩
def RX9 : String := "StageMachine$Thing"
def TX9 : u_T := fun k => match k with
  | 0 => ("StageMachine$Thing", "number", "I", true)
  | 1 => ("StageMachine$Thing", "lane", "I", true)
  | 2 => ("StageMachine$Thing", "width", "I", true)
  | 3 => ("StageMachine$Thing", "weight", "I", true)
  | 4 => ("StageMachine$Thing", "least", "I", true)
  | 5 => ("StageMachine$Thing", "most", "I", true)
  | 6 => ("StageMachine$Thing", "sceneAt", "[I", true)
  | 7 => ("StageMachine$Thing", "at", "I", false)
  | 8 => ("StageMachine$Thing", "trialAt", "I", false)
  | 9 => ("StageMachine$Thing", "tied", "LStageMachine$Rope;", false)
  | 10 => ("StageMachine$Thing", "keptAt", "I", false)
  | _ => ("StageMachine$Thing", "keptTied", "LStageMachine$Rope;", false)
def tyX9 : Nat → FieldType := fun k => match k with
  | 0 => .int
  | 1 => .int
  | 2 => .int
  | 3 => .int
  | 4 => .int
  | 5 => .int
  | 6 => .array .int
  | 7 => .int
  | 8 => .int
  | 9 => .object "StageMachine$Rope"
  | 10 => .int
  | _ => .object "StageMachine$Rope"
abbrev wsX90 : List Cond := u_ws RX9 TX9 12
theorem nmX9 : ∀ a, a < 12 → ∀ b, b < 12 → a ≠ b → (TX9 a).2.1 ≠ (TX9 b).2.1 := by decide +kernel
theorem tyX9_ok : ∀ k, k < 12 → parseFieldDescriptor (TX9 k).2.2.1 = some (tyX9 k) := by decide +kernel
abbrev cX9_init : ByteArray := prog_11_method_1_code
def yX9_init : MethodName := ⟨RX9, "<init>", "(IIIIIII)V"⟩
abbrev cX9_tell : ByteArray := prog_11_method_2_code
def yX9_tell : MethodName := ⟨RX9, "tell", "(I)I"⟩
abbrev cX9_tellScene : ByteArray := prog_11_method_3_code
def yX9_tellScene : MethodName := ⟨RX9, "tellScene", "(II)I"⟩
abbrev cX9_covers : ByteArray := prog_11_method_4_code
def yX9_covers : MethodName := ⟨RX9, "covers", "(I)Z"⟩
abbrev cX9_wouldMeet : ByteArray := prog_11_method_5_code
def yX9_wouldMeet : MethodName := ⟨RX9, "wouldMeet", "(LStageMachine$Thing;)Z"⟩
def RX10 : String := "StageMachine$Turning"
def TX10 : u_T := fun k => match k with
  | 0 => ("StageMachine$Turning", "stage", "LStageMachine$Stage;", true)
  | 1 => ("StageMachine$Turning", "latest", "LStageMachine$Stop;", true)
  | _ => ("StageMachine$Turning", "ahead", "LStageMachine$Stop;", true)
def tyX10 : Nat → FieldType := fun k => match k with
  | 0 => .object "StageMachine$Stage"
  | 1 => .object "StageMachine$Stop"
  | _ => .object "StageMachine$Stop"
abbrev wsX100 : List Cond := u_ws RX10 TX10 3
theorem nmX10 : ∀ a, a < 3 → ∀ b, b < 3 → a ≠ b → (TX10 a).2.1 ≠ (TX10 b).2.1 := by decide +kernel
theorem tyX10_ok : ∀ k, k < 3 → parseFieldDescriptor (TX10 k).2.2.1 = some (tyX10 k) := by decide +kernel
abbrev cX10_init : ByteArray := prog_12_method_1_code
def yX10_init : MethodName := ⟨RX10, "<init>", "(LStageMachine$Stage;)V"⟩
abbrev cX10_turnBy : ByteArray := prog_12_method_2_code
def yX10_turnBy : MethodName := ⟨RX10, "turnBy", "(I)I"⟩
abbrev cX10_lookAhead : ByteArray := prog_12_method_3_code
def yX10_lookAhead : MethodName := ⟨RX10, "lookAhead", "(I)I"⟩
abbrev cX10_stepsToNextMove : ByteArray := prog_12_method_4_code
def yX10_stepsToNextMove : MethodName := ⟨RX10, "stepsToNextMove", "(II)I"⟩
abbrev cX10_isBeyond : ByteArray := prog_12_method_5_code
def yX10_isBeyond : MethodName := ⟨RX10, "isBeyond", "()Z"⟩
abbrev cX10_isMeeting : ByteArray := prog_12_method_6_code
def yX10_isMeeting : MethodName := ⟨RX10, "isMeeting", "()Z"⟩
abbrev cX10_isUneven : ByteArray := prog_12_method_7_code
def yX10_isUneven : MethodName := ⟨RX10, "isUneven", "(I)Z"⟩
def RX11 : String := "StageMachine"
def TX11 : u_T := fun k => match k with
  | 0 => ("StageMachine", "stage", "LStageMachine$Stage;", true)
  | 1 => ("StageMachine", "turning", "LStageMachine$Turning;", true)
  | 2 => ("StageMachine", "latestChange", "LStageMachine$Change;", true)
  | 3 => ("StageMachine", "tape", "LStageMachine$Tape;", true)
  | 4 => ("StageMachine", "candles", "LStageMachine$Candles;", true)
  | 5 => ("StageMachine", "stock", "LStageMachine$Stock;", true)
  | _ => ("StageMachine", "cueCanGoBack", "Z", false)
def tyX11 : Nat → FieldType := fun k => match k with
  | 0 => .object "StageMachine$Stage"
  | 1 => .object "StageMachine$Turning"
  | 2 => .object "StageMachine$Change"
  | 3 => .object "StageMachine$Tape"
  | 4 => .object "StageMachine$Candles"
  | 5 => .object "StageMachine$Stock"
  | _ => .boolean
abbrev wsX110 : List Cond := u_ws RX11 TX11 7
theorem nmX11 : ∀ a, a < 7 → ∀ b, b < 7 → a ≠ b → (TX11 a).2.1 ≠ (TX11 b).2.1 := by decide +kernel
theorem tyX11_ok : ∀ k, k < 7 → parseFieldDescriptor (TX11 k).2.2.1 = some (tyX11 k) := by decide +kernel
abbrev cX11_init : ByteArray := prog_1_method_1_code
def yX11_init : MethodName := ⟨RX11, "<init>", "()V"⟩
abbrev cX11_thing : ByteArray := prog_1_method_2_code
def yX11_thing : MethodName := ⟨RX11, "thing", "(IIII)I"⟩
abbrev cX11_ofThing : ByteArray := prog_1_method_3_code
def yX11_ofThing : MethodName := ⟨RX11, "ofThing", "(II)I"⟩
abbrev cX11_on : ByteArray := prog_1_method_4_code
def yX11_on : MethodName := ⟨RX11, "on", "(I)I"⟩
abbrev cX11_drum : ByteArray := prog_1_method_5_code
def yX11_drum : MethodName := ⟨RX11, "drum", "(I)I"⟩
abbrev cX11_rope : ByteArray := prog_1_method_6_code
def yX11_rope : MethodName := ⟨RX11, "rope", "(III)I"⟩
abbrev cX11_ofRope : ByteArray := prog_1_method_7_code
def yX11_ofRope : MethodName := ⟨RX11, "ofRope", "(II)I"⟩
abbrev cX11_tie : ByteArray := prog_1_method_8_code
def yX11_tie : MethodName := ⟨RX11, "tie", "(II)I"⟩
abbrev cX11_untie : ByteArray := prog_1_method_9_code
def yX11_untie : MethodName := ⟨RX11, "untie", "(I)I"⟩
abbrev cX11_weight : ByteArray := prog_1_method_10_code
def yX11_weight : MethodName := ⟨RX11, "weight", "(II)I"⟩
abbrev cX11_bound : ByteArray := prog_1_method_11_code
def yX11_bound : MethodName := ⟨RX11, "bound", "(I)I"⟩
abbrev cX11_pull : ByteArray := prog_1_method_12_code
def yX11_pull : MethodName := ⟨RX11, "pull", "()I"⟩
abbrev cX11_turn : ByteArray := prog_1_method_13_code
def yX11_turn : MethodName := ⟨RX11, "turn", "(I)I"⟩
abbrev cX11_stopped : ByteArray := prog_1_method_14_code
def yX11_stopped : MethodName := ⟨RX11, "stopped", "(I)I"⟩
abbrev cX11_free : ByteArray := prog_1_method_15_code
def yX11_free : MethodName := ⟨RX11, "free", "(I)I"⟩
abbrev cX11_snap : ByteArray := prog_1_method_16_code
def yX11_snap : MethodName := ⟨RX11, "snap", "(I)I"⟩
abbrev cX11_hold : ByteArray := prog_1_method_17_code
def yX11_hold : MethodName := ⟨RX11, "hold", "(I)I"⟩
abbrev cX11_scene : ByteArray := prog_1_method_18_code
def yX11_scene : MethodName := ⟨RX11, "scene", "(III)I"⟩
abbrev cX11_change : ByteArray := prog_1_method_19_code
def yX11_change : MethodName := ⟨RX11, "change", "(II)I"⟩
abbrev cX11_told : ByteArray := prog_1_method_20_code
def yX11_told : MethodName := ⟨RX11, "told", "(II)I"⟩
abbrev cX11_work : ByteArray := prog_1_method_21_code
def yX11_work : MethodName := ⟨RX11, "work", "(I)I"⟩
abbrev cX11_men : ByteArray := prog_1_method_22_code
def yX11_men : MethodName := ⟨RX11, "men", "(I)I"⟩
abbrev cX11_feed : ByteArray := prog_1_method_23_code
def yX11_feed : MethodName := ⟨RX11, "feed", "(II)I"⟩
abbrev cX11_play : ByteArray := prog_1_method_24_code
def yX11_play : MethodName := ⟨RX11, "play", "()I"⟩
abbrev cX11_back : ByteArray := prog_1_method_25_code
def yX11_back : MethodName := ⟨RX11, "back", "()I"⟩
abbrev cX11_candle : ByteArray := prog_1_method_26_code
def yX11_candle : MethodName := ⟨RX11, "candle", "(I)I"⟩
abbrev cX11_minutes : ByteArray := prog_1_method_27_code
def yX11_minutes : MethodName := ⟨RX11, "minutes", "(I)I"⟩
abbrev cX11_trim : ByteArray := prog_1_method_28_code
def yX11_trim : MethodName := ⟨RX11, "trim", "(I)I"⟩
abbrev cX11_light : ByteArray := prog_1_method_29_code
def yX11_light : MethodName := ⟨RX11, "light", "(I)I"⟩
abbrev cX11_flat : ByteArray := prog_1_method_30_code
def yX11_flat : MethodName := ⟨RX11, "flat", "(II)I"⟩
abbrev cX11_want : ByteArray := prog_1_method_31_code
def yX11_want : MethodName := ⟨RX11, "want", "(II)I"⟩
abbrev cX11_paint : ByteArray := prog_1_method_32_code
def yX11_paint : MethodName := ⟨RX11, "paint", "()I"⟩
abbrev cX11_given : ByteArray := prog_1_method_33_code
def yX11_given : MethodName := ⟨RX11, "given", "(I)I"⟩
abbrev cX11_count : ByteArray := prog_1_method_34_code
def yX11_count : MethodName := ⟨RX11, "count", "(I)I"⟩
abbrev cX11_deed : ByteArray := prog_1_method_35_code
def yX11_deed : MethodName := ⟨RX11, "deed", "(IZ)I"⟩
abbrev cX11_playLine : ByteArray := prog_1_method_36_code
def yX11_playLine : MethodName := ⟨RX11, "playLine", "(I)I"⟩
abbrev cX11_isTurn : ByteArray := prog_1_method_37_code
def yX11_isTurn : MethodName := ⟨RX11, "isTurn", "(I)Z"⟩
abbrev cX11_isWithin : ByteArray := prog_1_method_38_code
def yX11_isWithin : MethodName := ⟨RX11, "isWithin", "(III)Z"⟩
abbrev cX11_quotient : ByteArray := prog_1_method_39_code
def yX11_quotient : MethodName := ⟨RX11, "quotient", "(II)I"⟩
abbrev cX11_quotientUp : ByteArray := prog_1_method_40_code
def yX11_quotientUp : MethodName := ⟨RX11, "quotientUp", "(II)I"⟩
abbrev cX11_overlap : ByteArray := prog_1_method_41_code
def yX11_overlap : MethodName := ⟨RX11, "overlap", "(IIII)Z"⟩
def RX12 : String := "StageMachineModel"
def TX12 : u_T := fun k => match k with
  | 0 => ("StageMachineModel", "code", "I", false)
  | 1 => ("StageMachineModel", "things", "I", false)
  | 2 => ("StageMachineModel", "lane", "[I", true)
  | 3 => ("StageMachineModel", "width", "[I", true)
  | 4 => ("StageMachineModel", "weightOf", "[I", true)
  | 5 => ("StageMachineModel", "at", "[I", true)
  | 6 => ("StageMachineModel", "least", "[I", true)
  | 7 => ("StageMachineModel", "most", "[I", true)
  | 8 => ("StageMachineModel", "atThen", "[I", true)
  | 9 => ("StageMachineModel", "drums", "I", false)
  | 10 => ("StageMachineModel", "size", "[I", true)
  | 11 => ("StageMachineModel", "ropes", "I", false)
  | 12 => ("StageMachineModel", "ropeThing", "[I", true)
  | 13 => ("StageMachineModel", "gear", "[I", true)
  | 14 => ("StageMachineModel", "way", "[I", true)
  | 15 => ("StageMachineModel", "holds", "[I", true)
  | 16 => ("StageMachineModel", "drumOf", "[I", true)
  | 17 => ("StageMachineModel", "done", "[I", true)
  | 18 => ("StageMachineModel", "isGone", "[Z", true)
  | 19 => ("StageMachineModel", "counter", "[I", true)
  | 20 => ("StageMachineModel", "bound", "I", false)
  | 21 => ("StageMachineModel", "shaft", "I", false)
  | 22 => ("StageMachineModel", "wear", "I", false)
  | 23 => ("StageMachineModel", "why", "I", false)
  | 24 => ("StageMachineModel", "whyThing", "I", false)
  | 25 => ("StageMachineModel", "whyOther", "I", false)
  | 26 => ("StageMachineModel", "catches", "[I", true)
  | 27 => ("StageMachineModel", "catchAt", "[I", true)
  | 28 => ("StageMachineModel", "scenes", "[I", true)
  | 29 => ("StageMachineModel", "hasChange", "Z", false)
  | 30 => ("StageMachineModel", "isNone", "Z", false)
  | 31 => ("StageMachineModel", "toldRope", "[I", true)
  | 32 => ("StageMachineModel", "toldDrum", "[I", true)
  | 33 => ("StageMachineModel", "works", "[I", true)
  | 34 => ("StageMachineModel", "toldMany", "I", false)
  | 35 => ("StageMachineModel", "leastMen", "[I", true)
  | 36 => ("StageMachineModel", "tape", "[B", true)
  | 37 => ("StageMachineModel", "taped", "I", false)
  | 38 => ("StageMachineModel", "here", "I", false)
  | 39 => ("StageMachineModel", "lines", "I", false)
  | 40 => ("StageMachineModel", "lineWhat", "[I", true)
  | 41 => ("StageMachineModel", "lineA", "[I", true)
  | 42 => ("StageMachineModel", "lineB", "[I", true)
  | 43 => ("StageMachineModel", "canBack", "Z", false)
  | 44 => ("StageMachineModel", "keptAt", "[I", true)
  | 45 => ("StageMachineModel", "keptThen", "[I", true)
  | 46 => ("StageMachineModel", "keptDrum", "[I", true)
  | 47 => ("StageMachineModel", "keptDone", "[I", true)
  | 48 => ("StageMachineModel", "keptCounter", "[I", true)
  | 49 => ("StageMachineModel", "keptShaft", "I", false)
  | 50 => ("StageMachineModel", "keptWear", "I", false)
  | 51 => ("StageMachineModel", "number", "I", false)
  | 52 => ("StageMachineModel", "time", "I", false)
  | 53 => ("StageMachineModel", "candles", "I", false)
  | 54 => ("StageMachineModel", "burns", "[I", true)
  | 55 => ("StageMachineModel", "litAt", "[I", true)
  | 56 => ("StageMachineModel", "flats", "I", false)
  | 57 => ("StageMachineModel", "flatSize", "[I", true)
  | 58 => ("StageMachineModel", "flatPaint", "[I", true)
  | 59 => ("StageMachineModel", "wants", "I", false)
  | 60 => ("StageMachineModel", "wantSize", "[I", true)
  | 61 => ("StageMachineModel", "wantPaint", "[I", true)
  | 62 => ("StageMachineModel", "trial", "[I", true)
  | 63 => ("StageMachineModel", "givenMany", "I", false)
  | _ => ("StageMachineModel", "given", "[I", true)
def tyX12 : Nat → FieldType := fun k => match k with
  | 0 => .int
  | 1 => .int
  | 2 => .array .int
  | 3 => .array .int
  | 4 => .array .int
  | 5 => .array .int
  | 6 => .array .int
  | 7 => .array .int
  | 8 => .array .int
  | 9 => .int
  | 10 => .array .int
  | 11 => .int
  | 12 => .array .int
  | 13 => .array .int
  | 14 => .array .int
  | 15 => .array .int
  | 16 => .array .int
  | 17 => .array .int
  | 18 => .array .boolean
  | 19 => .array .int
  | 20 => .int
  | 21 => .int
  | 22 => .int
  | 23 => .int
  | 24 => .int
  | 25 => .int
  | 26 => .array .int
  | 27 => .array .int
  | 28 => .array .int
  | 29 => .boolean
  | 30 => .boolean
  | 31 => .array .int
  | 32 => .array .int
  | 33 => .array .int
  | 34 => .int
  | 35 => .array .int
  | 36 => .array .byte
  | 37 => .int
  | 38 => .int
  | 39 => .int
  | 40 => .array .int
  | 41 => .array .int
  | 42 => .array .int
  | 43 => .boolean
  | 44 => .array .int
  | 45 => .array .int
  | 46 => .array .int
  | 47 => .array .int
  | 48 => .array .int
  | 49 => .int
  | 50 => .int
  | 51 => .int
  | 52 => .int
  | 53 => .int
  | 54 => .array .int
  | 55 => .array .int
  | 56 => .int
  | 57 => .array .int
  | 58 => .array .int
  | 59 => .int
  | 60 => .array .int
  | 61 => .array .int
  | 62 => .array .int
  | 63 => .int
  | _ => .array .int
abbrev wsX120 : List Cond := u_ws RX12 TX12 65
theorem nmX12 : ∀ a, a < 65 → ∀ b, b < 65 → a ≠ b → (TX12 a).2.1 ≠ (TX12 b).2.1 := by decide +kernel
theorem tyX12_ok : ∀ k, k < 65 → parseFieldDescriptor (TX12 k).2.2.1 = some (tyX12 k) := by decide +kernel
abbrev cX12_init : ByteArray := prog_14_method_1_code
def yX12_init : MethodName := ⟨RX12, "<init>", "()V"⟩
abbrev cX12_in : ByteArray := prog_14_method_3_code
def yX12_in : MethodName := ⟨RX12, "in", "(III)Z"⟩
abbrev cX12_isThing : ByteArray := prog_14_method_4_code
def yX12_isThing : MethodName := ⟨RX12, "isThing", "(I)Z"⟩
abbrev cX12_isRope : ByteArray := prog_14_method_5_code
def yX12_isRope : MethodName := ⟨RX12, "isRope", "(I)Z"⟩
abbrev cX12_isDrum : ByteArray := prog_14_method_6_code
def yX12_isDrum : MethodName := ⟨RX12, "isDrum", "(I)Z"⟩
abbrev cX12_meets : ByteArray := prog_14_method_7_code
def yX12_meets : MethodName := ⟨RX12, "meets", "(III)Z"⟩
abbrev cX12_other : ByteArray := prog_14_method_8_code
def yX12_other : MethodName := ⟨RX12, "other", "(II)I"⟩
abbrev cX12_thing : ByteArray := prog_14_method_9_code
def yX12_thing : MethodName := ⟨RX12, "thing", "(IIII)I"⟩
abbrev cX12_tiedTo : ByteArray := prog_14_method_10_code
def yX12_tiedTo : MethodName := ⟨RX12, "tiedTo", "(I)I"⟩
abbrev cX12_ofThing : ByteArray := prog_14_method_11_code
def yX12_ofThing : MethodName := ⟨RX12, "ofThing", "(II)I"⟩
abbrev cX12_on : ByteArray := prog_14_method_12_code
def yX12_on : MethodName := ⟨RX12, "on", "(I)I"⟩
abbrev cX12_drum : ByteArray := prog_14_method_13_code
def yX12_drum : MethodName := ⟨RX12, "drum", "(I)I"⟩
abbrev cX12_rope : ByteArray := prog_14_method_14_code
def yX12_rope : MethodName := ⟨RX12, "rope", "(III)I"⟩
abbrev cX12_load : ByteArray := prog_14_method_15_code
def yX12_load : MethodName := ⟨RX12, "load", "(I)I"⟩
abbrev cX12_ofRope : ByteArray := prog_14_method_16_code
def yX12_ofRope : MethodName := ⟨RX12, "ofRope", "(II)I"⟩
abbrev cX12_tieNow : ByteArray := prog_14_method_17_code
def yX12_tieNow : MethodName := ⟨RX12, "tieNow", "(II)I"⟩
abbrev cX12_tie : ByteArray := prog_14_method_18_code
def yX12_tie : MethodName := ⟨RX12, "tie", "(II)I"⟩
abbrev cX12_untieNow : ByteArray := prog_14_method_19_code
def yX12_untieNow : MethodName := ⟨RX12, "untieNow", "(I)I"⟩
abbrev cX12_untie : ByteArray := prog_14_method_20_code
def yX12_untie : MethodName := ⟨RX12, "untie", "(I)I"⟩
abbrev cX12_weighNow : ByteArray := prog_14_method_21_code
def yX12_weighNow : MethodName := ⟨RX12, "weighNow", "(II)I"⟩
abbrev cX12_weight : ByteArray := prog_14_method_22_code
def yX12_weight : MethodName := ⟨RX12, "weight", "(II)I"⟩
abbrev cX12_bound : ByteArray := prog_14_method_23_code
def yX12_bound : MethodName := ⟨RX12, "bound", "(I)I"⟩
abbrev cX12_pull : ByteArray := prog_14_method_24_code
def yX12_pull : MethodName := ⟨RX12, "pull", "()I"⟩
abbrev cX12_place : ByteArray := prog_14_method_25_code
def yX12_place : MethodName := ⟨RX12, "place", "(I)V"⟩
abbrev cX12_find : ByteArray := prog_14_method_26_code
def yX12_find : MethodName := ⟨RX12, "find", "()V"⟩
abbrev cX12_turnNow : ByteArray := prog_14_method_27_code
def yX12_turnNow : MethodName := ⟨RX12, "turnNow", "(I)I"⟩
abbrev cX12_isTurn : ByteArray := prog_14_method_28_code
def yX12_isTurn : MethodName := ⟨RX12, "isTurn", "(I)Z"⟩
abbrev cX12_turn : ByteArray := prog_14_method_29_code
def yX12_turn : MethodName := ⟨RX12, "turn", "(I)I"⟩
abbrev cX12_stopped : ByteArray := prog_14_method_30_code
def yX12_stopped : MethodName := ⟨RX12, "stopped", "(I)I"⟩
abbrev cX12_free : ByteArray := prog_14_method_31_code
def yX12_free : MethodName := ⟨RX12, "free", "(I)I"⟩
abbrev cX12_isCaught : ByteArray := prog_14_method_32_code
def yX12_isCaught : MethodName := ⟨RX12, "isCaught", "(II)Z"⟩
abbrev cX12_hold : ByteArray := prog_14_method_33_code
def yX12_hold : MethodName := ⟨RX12, "hold", "(I)I"⟩
abbrev cX12_snap : ByteArray := prog_14_method_34_code
def yX12_snap : MethodName := ⟨RX12, "snap", "(I)I"⟩
abbrev cX12_scene : ByteArray := prog_14_method_35_code
def yX12_scene : MethodName := ⟨RX12, "scene", "(III)I"⟩
abbrev cX12_brings : ByteArray := prog_14_method_36_code
def yX12_brings : MethodName := ⟨RX12, "brings", "(III)Z"⟩
abbrev cX12_workOf : ByteArray := prog_14_method_37_code
def yX12_workOf : MethodName := ⟨RX12, "workOf", "(I)I"⟩
abbrev cX12_change : ByteArray := prog_14_method_38_code
def yX12_change : MethodName := ⟨RX12, "change", "(II)I"⟩
abbrev cX12_told : ByteArray := prog_14_method_39_code
def yX12_told : MethodName := ⟨RX12, "told", "(II)I"⟩
abbrev cX12_work : ByteArray := prog_14_method_40_code
def yX12_work : MethodName := ⟨RX12, "work", "(I)I"⟩
abbrev cX12_menFor : ByteArray := prog_14_method_41_code
def yX12_menFor : MethodName := ⟨RX12, "menFor", "(IIII)I"⟩
abbrev cX12_men : ByteArray := prog_14_method_42_code
def yX12_men : MethodName := ⟨RX12, "men", "(I)I"⟩
abbrev cX12_feed : ByteArray := prog_14_method_43_code
def yX12_feed : MethodName := ⟨RX12, "feed", "(II)I"⟩
abbrev cX12_look : ByteArray := prog_14_method_44_code
def yX12_look : MethodName := ⟨RX12, "look", "()I"⟩
abbrev cX12_takes : ByteArray := prog_14_method_45_code
def yX12_takes : MethodName := ⟨RX12, "takes", "(Z)Z"⟩
abbrev cX12_line : ByteArray := prog_14_method_46_code
def yX12_line : MethodName := ⟨RX12, "line", "()Z"⟩
abbrev cX12_keep : ByteArray := prog_14_method_47_code
def yX12_keep : MethodName := ⟨RX12, "keep", "()V"⟩
abbrev cX12_play : ByteArray := prog_14_method_48_code
def yX12_play : MethodName := ⟨RX12, "play", "()I"⟩
abbrev cX12_back : ByteArray := prog_14_method_49_code
def yX12_back : MethodName := ⟨RX12, "back", "()I"⟩
abbrev cX12_left : ByteArray := prog_14_method_50_code
def yX12_left : MethodName := ⟨RX12, "left", "(I)I"⟩
abbrev cX12_candle : ByteArray := prog_14_method_51_code
def yX12_candle : MethodName := ⟨RX12, "candle", "(I)I"⟩
abbrev cX12_minutes : ByteArray := prog_14_method_52_code
def yX12_minutes : MethodName := ⟨RX12, "minutes", "(I)I"⟩
abbrev cX12_trim : ByteArray := prog_14_method_53_code
def yX12_trim : MethodName := ⟨RX12, "trim", "(I)I"⟩
abbrev cX12_light : ByteArray := prog_14_method_54_code
def yX12_light : MethodName := ⟨RX12, "light", "(I)I"⟩
abbrev cX12_isSize : ByteArray := prog_14_method_55_code
def yX12_isSize : MethodName := ⟨RX12, "isSize", "(I)Z"⟩
abbrev cX12_flat : ByteArray := prog_14_method_56_code
def yX12_flat : MethodName := ⟨RX12, "flat", "(II)I"⟩
abbrev cX12_want : ByteArray := prog_14_method_57_code
def yX12_want : MethodName := ⟨RX12, "want", "(II)I"⟩
abbrev cX12_area : ByteArray := prog_14_method_58_code
def yX12_area : MethodName := ⟨RX12, "area", "(I)I"⟩
abbrev cX12_cost : ByteArray := prog_14_method_59_code
def yX12_cost : MethodName := ⟨RX12, "cost", "(II)I"⟩
abbrev cX12_isTaken : ByteArray := prog_14_method_60_code
def yX12_isTaken : MethodName := ⟨RX12, "isTaken", "(I)Z"⟩
abbrev cX12_costTo : ByteArray := prog_14_method_61_code
def yX12_costTo : MethodName := ⟨RX12, "costTo", "(I)I"⟩
abbrev cX12_paint : ByteArray := prog_14_method_62_code
def yX12_paint : MethodName := ⟨RX12, "paint", "()I"⟩
abbrev cX12_given : ByteArray := prog_14_method_63_code
def yX12_given : MethodName := ⟨RX12, "given", "(I)I"⟩
abbrev cX12_count : ByteArray := prog_14_method_64_code
def yX12_count : MethodName := ⟨RX12, "count", "(I)I"⟩
def RJ6 : String := "java/lang/Integer"
def TJ6 : u_T := fun k => match k with
  | _ => ("", "", "", false)
def tyJ6 : Nat → FieldType := fun k => match k with
  | _ => .int
abbrev wsJ60 : List Cond := u_ws RJ6 TJ6 0
theorem nmJ6 : ∀ a, a < 0 → ∀ b, b < 0 → a ≠ b → (TJ6 a).2.1 ≠ (TJ6 b).2.1 := by decide +kernel
theorem tyJ6_ok : ∀ k, k < 0 → parseFieldDescriptor (TJ6 k).2.2.1 = some (tyJ6 k) := by decide +kernel
abbrev cJ6_bitCount_0f7a4 : ByteArray := prog_15_method_49_code
def yJ6_bitCount_0f7a4 : MethodName := ⟨RJ6, "bitCount", "(I)I"⟩
def RJ9 : String := "java/lang/Math"
def TJ9 : u_T := fun k => match k with
  | _ => ("", "", "", false)
def tyJ9 : Nat → FieldType := fun k => match k with
  | _ => .int
abbrev wsJ90 : List Cond := u_ws RJ9 TJ9 0
theorem nmJ9 : ∀ a, a < 0 → ∀ b, b < 0 → a ≠ b → (TJ9 a).2.1 ≠ (TJ9 b).2.1 := by decide +kernel
theorem tyJ9_ok : ∀ k, k < 0 → parseFieldDescriptor (TJ9 k).2.2.1 = some (tyJ9 k) := by decide +kernel
abbrev cJ9_abs_0f7a4 : ByteArray := prog_16_method_59_code
def yJ9_abs_0f7a4 : MethodName := ⟨RJ9, "abs", "(I)I"⟩
abbrev cJ9_max_7cf53 : ByteArray := prog_16_method_65_code
def yJ9_max_7cf53 : MethodName := ⟨RJ9, "max", "(II)I"⟩
abbrev cJ9_min_7cf53 : ByteArray := prog_16_method_69_code
def yJ9_min_7cf53 : MethodName := ⟨RJ9, "min", "(II)I"⟩
def RJ10 : String := "java/lang/System"
def TJ10 : u_T := fun k => match k with
  | _ => ("", "", "", false)
def tyJ10 : Nat → FieldType := fun k => match k with
  | _ => .int
abbrev wsJ100 : List Cond := u_ws RJ10 TJ10 0
theorem nmJ10 : ∀ a, a < 0 → ∀ b, b < 0 → a ≠ b → (TJ10 a).2.1 ≠ (TJ10 b).2.1 := by decide +kernel
theorem tyJ10_ok : ∀ k, k < 0 → parseFieldDescriptor (TJ10 k).2.2.1 = some (tyJ10 k) := by decide +kernel
def RJ7 : String := "java/util/Arrays"
def TJ7 : u_T := fun k => match k with
  | _ => ("", "", "", false)
def tyJ7 : Nat → FieldType := fun k => match k with
  | _ => .int
abbrev wsJ70 : List Cond := u_ws RJ7 TJ7 0
theorem nmJ7 : ∀ a, a < 0 → ∀ b, b < 0 → a ≠ b → (TJ7 a).2.1 ≠ (TJ7 b).2.1 := by decide +kernel
theorem tyJ7_ok : ∀ k, k < 0 → parseFieldDescriptor (TJ7 k).2.2.1 = some (tyJ7 k) := by decide +kernel
abbrev cJ7_fill_53178 : ByteArray := prog_18_method_103_code
def yJ7_fill_53178 : MethodName := ⟨RJ7, "fill", "([II)V"⟩
def RL : String := "StageMachineLaw"
abbrev cL_law : ByteArray := code
def yL_law : MethodName := ⟨RL, "law", "([I)Z"⟩
