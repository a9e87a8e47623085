section
-- ===== PART A: goes FIRST, ahead of the names: the tables' words, and 'selects' of the private methods out of them =====
/-- a private method of a class that the tables say can be made, by its rows of tables_1 -/
def lw_okq (q : MethodName × Nat) : Prop := (q.1.cls ≠ "java/lang/invoke/MethodHandle" ∧ q.1.cls ≠ "java/lang/invoke/VarHandle") ∧ Cond.instantiable q.1.cls q.2 ∈ tables_1 ∧ Cond.privateMethod q.1 ∈ tables_1 ∧ Cond.instanceMethod q.1 ∈ tables_1
theorem lw_p0 : lw_okq (⟨"StageMachine", "deed", "(IZ)I"⟩, 7) := ⟨⟨by decide +kernel, by decide +kernel⟩, List.mem_of_getElem? (i := 19) (by decide +kernel), List.mem_of_getElem? (i := 365) (by decide +kernel), List.mem_of_getElem? (i := 366) (by decide +kernel)⟩
theorem lw_p1 : lw_okq (⟨"StageMachine$Turning", "isBeyond", "()Z"⟩, 3) := ⟨⟨by decide +kernel, by decide +kernel⟩, List.mem_of_getElem? (i := 191) (by decide +kernel), List.mem_of_getElem? (i := 607) (by decide +kernel), List.mem_of_getElem? (i := 608) (by decide +kernel)⟩
theorem lw_p2 : lw_okq (⟨"StageMachine$Turning", "isMeeting", "()Z"⟩, 3) := ⟨⟨by decide +kernel, by decide +kernel⟩, List.mem_of_getElem? (i := 191) (by decide +kernel), List.mem_of_getElem? (i := 612) (by decide +kernel), List.mem_of_getElem? (i := 613) (by decide +kernel)⟩
theorem lw_p3 : lw_okq (⟨"StageMachine$Turning", "isUneven", "(I)Z"⟩, 3) := ⟨⟨by decide +kernel, by decide +kernel⟩, List.mem_of_getElem? (i := 191) (by decide +kernel), List.mem_of_getElem? (i := 622) (by decide +kernel), List.mem_of_getElem? (i := 623) (by decide +kernel)⟩
theorem lw_p4 : lw_okq (⟨"StageMachine$Turning", "stepsToNextMove", "(II)I"⟩, 3) := ⟨⟨by decide +kernel, by decide +kernel⟩, List.mem_of_getElem? (i := 191) (by decide +kernel), List.mem_of_getElem? (i := 626) (by decide +kernel), List.mem_of_getElem? (i := 627) (by decide +kernel)⟩
theorem lw_p5 : lw_okq (⟨"StageMachine$Stage", "fall", "(LStageMachine$Thing;II)I"⟩, 15) := ⟨⟨by decide +kernel, by decide +kernel⟩, List.mem_of_getElem? (i := 116) (by decide +kernel), List.mem_of_getElem? (i := 672) (by decide +kernel), List.mem_of_getElem? (i := 673) (by decide +kernel)⟩
theorem lw_p6 : lw_okq (⟨"StageMachine$Stage", "canFall", "(LStageMachine$Thing;I)Z"⟩, 15) := ⟨⟨by decide +kernel, by decide +kernel⟩, List.mem_of_getElem? (i := 116) (by decide +kernel), List.mem_of_getElem? (i := 676) (by decide +kernel), List.mem_of_getElem? (i := 677) (by decide +kernel)⟩
theorem lw_p7 : lw_okq (⟨"StageMachine$Stage", "isCatch", "(II)Z"⟩, 15) := ⟨⟨by decide +kernel, by decide +kernel⟩, List.mem_of_getElem? (i := 116) (by decide +kernel), List.mem_of_getElem? (i := 680) (by decide +kernel), List.mem_of_getElem? (i := 681) (by decide +kernel)⟩
theorem lw_p8 : lw_okq (⟨"StageMachine$Change", "findTie", "(LStageMachine$Thing;II)Z"⟩, 9) := ⟨⟨by decide +kernel, by decide +kernel⟩, List.mem_of_getElem? (i := 227) (by decide +kernel), List.mem_of_getElem? (i := 712) (by decide +kernel), List.mem_of_getElem? (i := 713) (by decide +kernel)⟩
theorem lw_p9 : lw_okq (⟨"StageMachine$Change", "findDrum", "(LStageMachine$Rope;II)I"⟩, 9) := ⟨⟨by decide +kernel, by decide +kernel⟩, List.mem_of_getElem? (i := 227) (by decide +kernel), List.mem_of_getElem? (i := 717) (by decide +kernel), List.mem_of_getElem? (i := 718) (by decide +kernel)⟩
theorem lw_p10 : lw_okq (⟨"StageMachine$Change", "countWorks", "()V"⟩, 9) := ⟨⟨by decide +kernel, by decide +kernel⟩, List.mem_of_getElem? (i := 227) (by decide +kernel), List.mem_of_getElem? (i := 722) (by decide +kernel), List.mem_of_getElem? (i := 723) (by decide +kernel)⟩
theorem lw_p11 : lw_okq (⟨"StageMachine$Change", "isReady", "(LStageMachine$Rope;I)Z"⟩, 9) := ⟨⟨by decide +kernel, by decide +kernel⟩, List.mem_of_getElem? (i := 227) (by decide +kernel), List.mem_of_getElem? (i := 726) (by decide +kernel), List.mem_of_getElem? (i := 727) (by decide +kernel)⟩
theorem lw_p12 : lw_okq (⟨"StageMachine$Change", "works", "()I"⟩, 9) := ⟨⟨by decide +kernel, by decide +kernel⟩, List.mem_of_getElem? (i := 227) (by decide +kernel), List.mem_of_getElem? (i := 747) (by decide +kernel), List.mem_of_getElem? (i := 748) (by decide +kernel)⟩
theorem lw_p13 : lw_okq (⟨"StageMachine$Change", "longestWork", "()I"⟩, 9) := ⟨⟨by decide +kernel, by decide +kernel⟩, List.mem_of_getElem? (i := 227) (by decide +kernel), List.mem_of_getElem? (i := 759) (by decide +kernel), List.mem_of_getElem? (i := 760) (by decide +kernel)⟩
theorem lw_p14 : lw_okq (⟨"StageMachine$Change", "shareOut", "(I)I"⟩, 9) := ⟨⟨by decide +kernel, by decide +kernel⟩, List.mem_of_getElem? (i := 227) (by decide +kernel), List.mem_of_getElem? (i := 763) (by decide +kernel), List.mem_of_getElem? (i := 764) (by decide +kernel)⟩
theorem lw_p15 : lw_okq (⟨"StageMachine$Change", "leastShare", "(IIII)I"⟩, 9) := ⟨⟨by decide +kernel, by decide +kernel⟩, List.mem_of_getElem? (i := 227) (by decide +kernel), List.mem_of_getElem? (i := 767) (by decide +kernel), List.mem_of_getElem? (i := 768) (by decide +kernel)⟩
def lw_privs_1 : List (MethodName × Nat) := [(⟨"StageMachine", "deed", "(IZ)I"⟩, 7), (⟨"StageMachine$Turning", "isBeyond", "()Z"⟩, 3), (⟨"StageMachine$Turning", "isMeeting", "()Z"⟩, 3), (⟨"StageMachine$Turning", "isUneven", "(I)Z"⟩, 3), (⟨"StageMachine$Turning", "stepsToNextMove", "(II)I"⟩, 3), (⟨"StageMachine$Stage", "fall", "(LStageMachine$Thing;II)I"⟩, 15), (⟨"StageMachine$Stage", "canFall", "(LStageMachine$Thing;I)Z"⟩, 15), (⟨"StageMachine$Stage", "isCatch", "(II)Z"⟩, 15), (⟨"StageMachine$Change", "findTie", "(LStageMachine$Thing;II)Z"⟩, 9), (⟨"StageMachine$Change", "findDrum", "(LStageMachine$Rope;II)I"⟩, 9), (⟨"StageMachine$Change", "countWorks", "()V"⟩, 9), (⟨"StageMachine$Change", "isReady", "(LStageMachine$Rope;I)Z"⟩, 9), (⟨"StageMachine$Change", "works", "()I"⟩, 9), (⟨"StageMachine$Change", "longestWork", "()I"⟩, 9), (⟨"StageMachine$Change", "shareOut", "(I)I"⟩, 9), (⟨"StageMachine$Change", "leastShare", "(IIII)I"⟩, 9)]
theorem lw_r1 : ∀ q ∈ lw_privs_1, lw_okq q := List.forall_mem_cons.mpr ⟨lw_p0, List.forall_mem_cons.mpr ⟨lw_p1, List.forall_mem_cons.mpr ⟨lw_p2, List.forall_mem_cons.mpr ⟨lw_p3, List.forall_mem_cons.mpr ⟨lw_p4, List.forall_mem_cons.mpr ⟨lw_p5, List.forall_mem_cons.mpr ⟨lw_p6, List.forall_mem_cons.mpr ⟨lw_p7, List.forall_mem_cons.mpr ⟨lw_p8, List.forall_mem_cons.mpr ⟨lw_p9, List.forall_mem_cons.mpr ⟨lw_p10, List.forall_mem_cons.mpr ⟨lw_p11, List.forall_mem_cons.mpr ⟨lw_p12, List.forall_mem_cons.mpr ⟨lw_p13, List.forall_mem_cons.mpr ⟨lw_p14, List.forall_mem_cons.mpr ⟨lw_p15, fun _ h => absurd h List.not_mem_nil⟩⟩⟩⟩⟩⟩⟩⟩⟩⟩⟩⟩⟩⟩⟩⟩
theorem lw_p16 : lw_okq (⟨"StageMachine$Change", "slot", "(III)I"⟩, 9) := ⟨⟨by decide +kernel, by decide +kernel⟩, List.mem_of_getElem? (i := 227) (by decide +kernel), List.mem_of_getElem? (i := 771) (by decide +kernel), List.mem_of_getElem? (i := 772) (by decide +kernel)⟩
theorem lw_p17 : lw_okq (⟨"StageMachine$Change", "withWork", "(III)I"⟩, 9) := ⟨⟨by decide +kernel, by decide +kernel⟩, List.mem_of_getElem? (i := 227) (by decide +kernel), List.mem_of_getElem? (i := 775) (by decide +kernel), List.mem_of_getElem? (i := 776) (by decide +kernel)⟩
theorem lw_p18 : lw_okq (⟨"StageMachine$Tape", "readLine", "(I)Z"⟩, 8) := ⟨⟨by decide +kernel, by decide +kernel⟩, List.mem_of_getElem? (i := 27) (by decide +kernel), List.mem_of_getElem? (i := 798) (by decide +kernel), List.mem_of_getElem? (i := 799) (by decide +kernel)⟩
theorem lw_p19 : lw_okq (⟨"StageMachine$Tape", "peek", "()I"⟩, 8) := ⟨⟨by decide +kernel, by decide +kernel⟩, List.mem_of_getElem? (i := 27) (by decide +kernel), List.mem_of_getElem? (i := 802) (by decide +kernel), List.mem_of_getElem? (i := 803) (by decide +kernel)⟩
theorem lw_p20 : lw_okq (⟨"StageMachine$Tape", "readTwo", "(IZ)Z"⟩, 8) := ⟨⟨by decide +kernel, by decide +kernel⟩, List.mem_of_getElem? (i := 27) (by decide +kernel), List.mem_of_getElem? (i := 806) (by decide +kernel), List.mem_of_getElem? (i := 807) (by decide +kernel)⟩
theorem lw_p21 : lw_okq (⟨"StageMachine$Tape", "readNumber", "(Z)Z"⟩, 8) := ⟨⟨by decide +kernel, by decide +kernel⟩, List.mem_of_getElem? (i := 27) (by decide +kernel), List.mem_of_getElem? (i := 810) (by decide +kernel), List.mem_of_getElem? (i := 811) (by decide +kernel)⟩
theorem lw_p22 : lw_okq (⟨"StageMachine$Tape", "readSign", "(I)Z"⟩, 8) := ⟨⟨by decide +kernel, by decide +kernel⟩, List.mem_of_getElem? (i := 27) (by decide +kernel), List.mem_of_getElem? (i := 814) (by decide +kernel), List.mem_of_getElem? (i := 815) (by decide +kernel)⟩
theorem lw_p23 : lw_okq (⟨"StageMachine$Tape", "readOne", "(IZ)Z"⟩, 8) := ⟨⟨by decide +kernel, by decide +kernel⟩, List.mem_of_getElem? (i := 27) (by decide +kernel), List.mem_of_getElem? (i := 818) (by decide +kernel), List.mem_of_getElem? (i := 819) (by decide +kernel)⟩
theorem lw_p24 : lw_okq (⟨"StageMachine", "playLine", "(I)I"⟩, 7) := ⟨⟨by decide +kernel, by decide +kernel⟩, List.mem_of_getElem? (i := 19) (by decide +kernel), List.mem_of_getElem? (i := 829) (by decide +kernel), List.mem_of_getElem? (i := 830) (by decide +kernel)⟩
theorem lw_p25 : lw_okq (⟨"StageMachine$Candles", "burning", "()I"⟩, 4) := ⟨⟨by decide +kernel, by decide +kernel⟩, List.mem_of_getElem? (i := 64) (by decide +kernel), List.mem_of_getElem? (i := 875) (by decide +kernel), List.mem_of_getElem? (i := 876) (by decide +kernel)⟩
theorem lw_p26 : lw_okq (⟨"StageMachine$Candles", "leastLeft", "()I"⟩, 4) := ⟨⟨by decide +kernel, by decide +kernel⟩, List.mem_of_getElem? (i := 64) (by decide +kernel), List.mem_of_getElem? (i := 879) (by decide +kernel), List.mem_of_getElem? (i := 880) (by decide +kernel)⟩
theorem lw_p27 : lw_okq (⟨"StageMachine$Stock", "leastSum", "()I"⟩, 7) := ⟨⟨by decide +kernel, by decide +kernel⟩, List.mem_of_getElem? (i := 85) (by decide +kernel), List.mem_of_getElem? (i := 927) (by decide +kernel), List.mem_of_getElem? (i := 928) (by decide +kernel)⟩
theorem lw_p28 : lw_okq (⟨"StageMachine$Stock", "leastSumBehind", "(ILStageMachine$Panel;)I"⟩, 7) := ⟨⟨by decide +kernel, by decide +kernel⟩, List.mem_of_getElem? (i := 85) (by decide +kernel), List.mem_of_getElem? (i := 937) (by decide +kernel), List.mem_of_getElem? (i := 938) (by decide +kernel)⟩
theorem lw_p29 : lw_okq (⟨"StageMachine$Stock", "sumWith", "(IILStageMachine$Panel;)I"⟩, 7) := ⟨⟨by decide +kernel, by decide +kernel⟩, List.mem_of_getElem? (i := 85) (by decide +kernel), List.mem_of_getElem? (i := 941) (by decide +kernel), List.mem_of_getElem? (i := 942) (by decide +kernel)⟩
theorem lw_p30 : lw_okq (⟨"StageMachine$Stock", "give", "()V"⟩, 7) := ⟨⟨by decide +kernel, by decide +kernel⟩, List.mem_of_getElem? (i := 85) (by decide +kernel), List.mem_of_getElem? (i := 958) (by decide +kernel), List.mem_of_getElem? (i := 959) (by decide +kernel)⟩
theorem lw_p31 : lw_okq (⟨"StageMachineModel", "isThing", "(I)Z"⟩, 65) := ⟨⟨by decide +kernel, by decide +kernel⟩, List.mem_of_getElem? (i := 978) (by decide +kernel), List.mem_of_getElem? (i := 1193) (by decide +kernel), List.mem_of_getElem? (i := 1194) (by decide +kernel)⟩
def lw_privs_2 : List (MethodName × Nat) := [(⟨"StageMachine$Change", "slot", "(III)I"⟩, 9), (⟨"StageMachine$Change", "withWork", "(III)I"⟩, 9), (⟨"StageMachine$Tape", "readLine", "(I)Z"⟩, 8), (⟨"StageMachine$Tape", "peek", "()I"⟩, 8), (⟨"StageMachine$Tape", "readTwo", "(IZ)Z"⟩, 8), (⟨"StageMachine$Tape", "readNumber", "(Z)Z"⟩, 8), (⟨"StageMachine$Tape", "readSign", "(I)Z"⟩, 8), (⟨"StageMachine$Tape", "readOne", "(IZ)Z"⟩, 8), (⟨"StageMachine", "playLine", "(I)I"⟩, 7), (⟨"StageMachine$Candles", "burning", "()I"⟩, 4), (⟨"StageMachine$Candles", "leastLeft", "()I"⟩, 4), (⟨"StageMachine$Stock", "leastSum", "()I"⟩, 7), (⟨"StageMachine$Stock", "leastSumBehind", "(ILStageMachine$Panel;)I"⟩, 7), (⟨"StageMachine$Stock", "sumWith", "(IILStageMachine$Panel;)I"⟩, 7), (⟨"StageMachine$Stock", "give", "()V"⟩, 7), (⟨"StageMachineModel", "isThing", "(I)Z"⟩, 65)]
theorem lw_r2 : ∀ q ∈ lw_privs_2, lw_okq q := List.forall_mem_cons.mpr ⟨lw_p16, List.forall_mem_cons.mpr ⟨lw_p17, List.forall_mem_cons.mpr ⟨lw_p18, List.forall_mem_cons.mpr ⟨lw_p19, List.forall_mem_cons.mpr ⟨lw_p20, List.forall_mem_cons.mpr ⟨lw_p21, List.forall_mem_cons.mpr ⟨lw_p22, List.forall_mem_cons.mpr ⟨lw_p23, List.forall_mem_cons.mpr ⟨lw_p24, List.forall_mem_cons.mpr ⟨lw_p25, List.forall_mem_cons.mpr ⟨lw_p26, List.forall_mem_cons.mpr ⟨lw_p27, List.forall_mem_cons.mpr ⟨lw_p28, List.forall_mem_cons.mpr ⟨lw_p29, List.forall_mem_cons.mpr ⟨lw_p30, List.forall_mem_cons.mpr ⟨lw_p31, fun _ h => absurd h List.not_mem_nil⟩⟩⟩⟩⟩⟩⟩⟩⟩⟩⟩⟩⟩⟩⟩⟩
theorem lw_p32 : lw_okq (⟨"StageMachineModel", "tiedTo", "(I)I"⟩, 65) := ⟨⟨by decide +kernel, by decide +kernel⟩, List.mem_of_getElem? (i := 978) (by decide +kernel), List.mem_of_getElem? (i := 1197) (by decide +kernel), List.mem_of_getElem? (i := 1198) (by decide +kernel)⟩
theorem lw_p33 : lw_okq (⟨"StageMachineModel", "isRope", "(I)Z"⟩, 65) := ⟨⟨by decide +kernel, by decide +kernel⟩, List.mem_of_getElem? (i := 978) (by decide +kernel), List.mem_of_getElem? (i := 1217) (by decide +kernel), List.mem_of_getElem? (i := 1218) (by decide +kernel)⟩
theorem lw_p34 : lw_okq (⟨"StageMachineModel", "load", "(I)I"⟩, 65) := ⟨⟨by decide +kernel, by decide +kernel⟩, List.mem_of_getElem? (i := 978) (by decide +kernel), List.mem_of_getElem? (i := 1222) (by decide +kernel), List.mem_of_getElem? (i := 1223) (by decide +kernel)⟩
theorem lw_p35 : lw_okq (⟨"StageMachineModel", "tieNow", "(II)I"⟩, 65) := ⟨⟨by decide +kernel, by decide +kernel⟩, List.mem_of_getElem? (i := 978) (by decide +kernel), List.mem_of_getElem? (i := 1230) (by decide +kernel), List.mem_of_getElem? (i := 1231) (by decide +kernel)⟩
theorem lw_p36 : lw_okq (⟨"StageMachineModel", "isDrum", "(I)Z"⟩, 65) := ⟨⟨by decide +kernel, by decide +kernel⟩, List.mem_of_getElem? (i := 978) (by decide +kernel), List.mem_of_getElem? (i := 1234) (by decide +kernel), List.mem_of_getElem? (i := 1235) (by decide +kernel)⟩
theorem lw_p37 : lw_okq (⟨"StageMachineModel", "untieNow", "(I)I"⟩, 65) := ⟨⟨by decide +kernel, by decide +kernel⟩, List.mem_of_getElem? (i := 978) (by decide +kernel), List.mem_of_getElem? (i := 1242) (by decide +kernel), List.mem_of_getElem? (i := 1243) (by decide +kernel)⟩
theorem lw_p38 : lw_okq (⟨"StageMachineModel", "weighNow", "(II)I"⟩, 65) := ⟨⟨by decide +kernel, by decide +kernel⟩, List.mem_of_getElem? (i := 978) (by decide +kernel), List.mem_of_getElem? (i := 1250) (by decide +kernel), List.mem_of_getElem? (i := 1251) (by decide +kernel)⟩
theorem lw_p39 : lw_okq (⟨"StageMachineModel", "turnNow", "(I)I"⟩, 65) := ⟨⟨by decide +kernel, by decide +kernel⟩, List.mem_of_getElem? (i := 978) (by decide +kernel), List.mem_of_getElem? (i := 1269) (by decide +kernel), List.mem_of_getElem? (i := 1270) (by decide +kernel)⟩
theorem lw_p40 : lw_okq (⟨"StageMachineModel", "place", "(I)V"⟩, 65) := ⟨⟨by decide +kernel, by decide +kernel⟩, List.mem_of_getElem? (i := 978) (by decide +kernel), List.mem_of_getElem? (i := 1273) (by decide +kernel), List.mem_of_getElem? (i := 1274) (by decide +kernel)⟩
theorem lw_p41 : lw_okq (⟨"StageMachineModel", "find", "()V"⟩, 65) := ⟨⟨by decide +kernel, by decide +kernel⟩, List.mem_of_getElem? (i := 978) (by decide +kernel), List.mem_of_getElem? (i := 1277) (by decide +kernel), List.mem_of_getElem? (i := 1278) (by decide +kernel)⟩
theorem lw_p42 : lw_okq (⟨"StageMachineModel", "other", "(II)I"⟩, 65) := ⟨⟨by decide +kernel, by decide +kernel⟩, List.mem_of_getElem? (i := 978) (by decide +kernel), List.mem_of_getElem? (i := 1281) (by decide +kernel), List.mem_of_getElem? (i := 1282) (by decide +kernel)⟩
theorem lw_p43 : lw_okq (⟨"StageMachineModel", "meets", "(III)Z"⟩, 65) := ⟨⟨by decide +kernel, by decide +kernel⟩, List.mem_of_getElem? (i := 978) (by decide +kernel), List.mem_of_getElem? (i := 1285) (by decide +kernel), List.mem_of_getElem? (i := 1286) (by decide +kernel)⟩
theorem lw_p44 : lw_okq (⟨"StageMachineModel", "isCaught", "(II)Z"⟩, 65) := ⟨⟨by decide +kernel, by decide +kernel⟩, List.mem_of_getElem? (i := 978) (by decide +kernel), List.mem_of_getElem? (i := 1302) (by decide +kernel), List.mem_of_getElem? (i := 1303) (by decide +kernel)⟩
theorem lw_p45 : lw_okq (⟨"StageMachineModel", "brings", "(III)Z"⟩, 65) := ⟨⟨by decide +kernel, by decide +kernel⟩, List.mem_of_getElem? (i := 978) (by decide +kernel), List.mem_of_getElem? (i := 1318) (by decide +kernel), List.mem_of_getElem? (i := 1319) (by decide +kernel)⟩
theorem lw_p46 : lw_okq (⟨"StageMachineModel", "workOf", "(I)I"⟩, 65) := ⟨⟨by decide +kernel, by decide +kernel⟩, List.mem_of_getElem? (i := 978) (by decide +kernel), List.mem_of_getElem? (i := 1322) (by decide +kernel), List.mem_of_getElem? (i := 1323) (by decide +kernel)⟩
theorem lw_p47 : lw_okq (⟨"StageMachineModel", "menFor", "(IIII)I"⟩, 65) := ⟨⟨by decide +kernel, by decide +kernel⟩, List.mem_of_getElem? (i := 978) (by decide +kernel), List.mem_of_getElem? (i := 1338) (by decide +kernel), List.mem_of_getElem? (i := 1339) (by decide +kernel)⟩
def lw_privs_3 : List (MethodName × Nat) := [(⟨"StageMachineModel", "tiedTo", "(I)I"⟩, 65), (⟨"StageMachineModel", "isRope", "(I)Z"⟩, 65), (⟨"StageMachineModel", "load", "(I)I"⟩, 65), (⟨"StageMachineModel", "tieNow", "(II)I"⟩, 65), (⟨"StageMachineModel", "isDrum", "(I)Z"⟩, 65), (⟨"StageMachineModel", "untieNow", "(I)I"⟩, 65), (⟨"StageMachineModel", "weighNow", "(II)I"⟩, 65), (⟨"StageMachineModel", "turnNow", "(I)I"⟩, 65), (⟨"StageMachineModel", "place", "(I)V"⟩, 65), (⟨"StageMachineModel", "find", "()V"⟩, 65), (⟨"StageMachineModel", "other", "(II)I"⟩, 65), (⟨"StageMachineModel", "meets", "(III)Z"⟩, 65), (⟨"StageMachineModel", "isCaught", "(II)Z"⟩, 65), (⟨"StageMachineModel", "brings", "(III)Z"⟩, 65), (⟨"StageMachineModel", "workOf", "(I)I"⟩, 65), (⟨"StageMachineModel", "menFor", "(IIII)I"⟩, 65)]
theorem lw_r3 : ∀ q ∈ lw_privs_3, lw_okq q := List.forall_mem_cons.mpr ⟨lw_p32, List.forall_mem_cons.mpr ⟨lw_p33, List.forall_mem_cons.mpr ⟨lw_p34, List.forall_mem_cons.mpr ⟨lw_p35, List.forall_mem_cons.mpr ⟨lw_p36, List.forall_mem_cons.mpr ⟨lw_p37, List.forall_mem_cons.mpr ⟨lw_p38, List.forall_mem_cons.mpr ⟨lw_p39, List.forall_mem_cons.mpr ⟨lw_p40, List.forall_mem_cons.mpr ⟨lw_p41, List.forall_mem_cons.mpr ⟨lw_p42, List.forall_mem_cons.mpr ⟨lw_p43, List.forall_mem_cons.mpr ⟨lw_p44, List.forall_mem_cons.mpr ⟨lw_p45, List.forall_mem_cons.mpr ⟨lw_p46, List.forall_mem_cons.mpr ⟨lw_p47, fun _ h => absurd h List.not_mem_nil⟩⟩⟩⟩⟩⟩⟩⟩⟩⟩⟩⟩⟩⟩⟩⟩
theorem lw_p48 : lw_okq (⟨"StageMachineModel", "line", "()Z"⟩, 65) := ⟨⟨by decide +kernel, by decide +kernel⟩, List.mem_of_getElem? (i := 978) (by decide +kernel), List.mem_of_getElem? (i := 1350) (by decide +kernel), List.mem_of_getElem? (i := 1351) (by decide +kernel)⟩
theorem lw_p49 : lw_okq (⟨"StageMachineModel", "look", "()I"⟩, 65) := ⟨⟨by decide +kernel, by decide +kernel⟩, List.mem_of_getElem? (i := 978) (by decide +kernel), List.mem_of_getElem? (i := 1354) (by decide +kernel), List.mem_of_getElem? (i := 1355) (by decide +kernel)⟩
theorem lw_p50 : lw_okq (⟨"StageMachineModel", "takes", "(Z)Z"⟩, 65) := ⟨⟨by decide +kernel, by decide +kernel⟩, List.mem_of_getElem? (i := 978) (by decide +kernel), List.mem_of_getElem? (i := 1358) (by decide +kernel), List.mem_of_getElem? (i := 1359) (by decide +kernel)⟩
theorem lw_p51 : lw_okq (⟨"StageMachineModel", "keep", "()V"⟩, 65) := ⟨⟨by decide +kernel, by decide +kernel⟩, List.mem_of_getElem? (i := 978) (by decide +kernel), List.mem_of_getElem? (i := 1362) (by decide +kernel), List.mem_of_getElem? (i := 1363) (by decide +kernel)⟩
theorem lw_p52 : lw_okq (⟨"StageMachineModel", "left", "(I)I"⟩, 65) := ⟨⟨by decide +kernel, by decide +kernel⟩, List.mem_of_getElem? (i := 978) (by decide +kernel), List.mem_of_getElem? (i := 1382) (by decide +kernel), List.mem_of_getElem? (i := 1383) (by decide +kernel)⟩
theorem lw_p53 : lw_okq (⟨"StageMachineModel", "cost", "(II)I"⟩, 65) := ⟨⟨by decide +kernel, by decide +kernel⟩, List.mem_of_getElem? (i := 978) (by decide +kernel), List.mem_of_getElem? (i := 1405) (by decide +kernel), List.mem_of_getElem? (i := 1406) (by decide +kernel)⟩
theorem lw_p54 : lw_okq (⟨"StageMachineModel", "isTaken", "(I)Z"⟩, 65) := ⟨⟨by decide +kernel, by decide +kernel⟩, List.mem_of_getElem? (i := 978) (by decide +kernel), List.mem_of_getElem? (i := 1412) (by decide +kernel), List.mem_of_getElem? (i := 1413) (by decide +kernel)⟩
theorem lw_p55 : lw_okq (⟨"StageMachineModel", "costTo", "(I)I"⟩, 65) := ⟨⟨by decide +kernel, by decide +kernel⟩, List.mem_of_getElem? (i := 978) (by decide +kernel), List.mem_of_getElem? (i := 1416) (by decide +kernel), List.mem_of_getElem? (i := 1417) (by decide +kernel)⟩
def lw_privs_4 : List (MethodName × Nat) := [(⟨"StageMachineModel", "line", "()Z"⟩, 65), (⟨"StageMachineModel", "look", "()I"⟩, 65), (⟨"StageMachineModel", "takes", "(Z)Z"⟩, 65), (⟨"StageMachineModel", "keep", "()V"⟩, 65), (⟨"StageMachineModel", "left", "(I)I"⟩, 65), (⟨"StageMachineModel", "cost", "(II)I"⟩, 65), (⟨"StageMachineModel", "isTaken", "(I)Z"⟩, 65), (⟨"StageMachineModel", "costTo", "(I)I"⟩, 65)]
theorem lw_r4 : ∀ q ∈ lw_privs_4, lw_okq q := List.forall_mem_cons.mpr ⟨lw_p48, List.forall_mem_cons.mpr ⟨lw_p49, List.forall_mem_cons.mpr ⟨lw_p50, List.forall_mem_cons.mpr ⟨lw_p51, List.forall_mem_cons.mpr ⟨lw_p52, List.forall_mem_cons.mpr ⟨lw_p53, List.forall_mem_cons.mpr ⟨lw_p54, List.forall_mem_cons.mpr ⟨lw_p55, fun _ h => absurd h List.not_mem_nil⟩⟩⟩⟩⟩⟩⟩⟩
def lw_privs : List (MethodName × Nat) := lw_privs_1 ++ (lw_privs_2 ++ (lw_privs_3 ++ (lw_privs_4)))
def lw_tbl : List Cond := k2_sels lw_privs ++ tables_1
theorem lw_privs_ok : ∀ q ∈ lw_privs, lw_okq q := by
  show ∀ q ∈ lw_privs_1 ++ (lw_privs_2 ++ (lw_privs_3 ++ (lw_privs_4))), lw_okq q
  exact List.forall_mem_append.mpr ⟨lw_r1, List.forall_mem_append.mpr ⟨lw_r2, List.forall_mem_append.mpr ⟨lw_r3, lw_r4⟩⟩⟩
-- ===== end of PART A; then your names; then what follows =====
def RX0 : String := "StageMachine$Candles"
def TX0 : u_T := fun k => match k with
  | 0 => ("StageMachine$Candles", "lengths", "[I", true)
  | 1 => ("StageMachine$Candles", "ends", "[I", true)
  | 2 => ("StageMachine$Candles", "number", "I", false)
  | _ => ("StageMachine$Candles", "time", "I", false)
def tyX0 : Nat → FieldType := fun k => match k with
  | 0 => .array .int
  | 1 => .array .int
  | 2 => .int
  | _ => .int
abbrev wsX00 : List Cond := u_ws RX0 TX0 4
theorem nmX0 : ∀ a, a < 4 → ∀ b, b < 4 → a ≠ b → (TX0 a).2.1 ≠ (TX0 b).2.1 := by decide +kernel
theorem tyX0_ok : ∀ k, k < 4 → parseFieldDescriptor (TX0 k).2.2.1 = some (tyX0 k) := by decide +kernel
abbrev cX0_init : ByteArray := prog_2_method_1_code
def yX0_init : MethodName := ⟨RX0, "<init>", "()V"⟩
abbrev cX0_add : ByteArray := prog_2_method_2_code
def yX0_add : MethodName := ⟨RX0, "add", "(I)I"⟩
abbrev cX0_pass : ByteArray := prog_2_method_3_code
def yX0_pass : MethodName := ⟨RX0, "pass", "(I)I"⟩
abbrev cX0_renew : ByteArray := prog_2_method_4_code
def yX0_renew : MethodName := ⟨RX0, "renew", "(I)I"⟩
abbrev cX0_tell : ByteArray := prog_2_method_5_code
def yX0_tell : MethodName := ⟨RX0, "tell", "(I)I"⟩
abbrev cX0_burning : ByteArray := prog_2_method_6_code
def yX0_burning : MethodName := ⟨RX0, "burning", "()I"⟩
abbrev cX0_leastLeft : ByteArray := prog_2_method_7_code
def yX0_leastLeft : MethodName := ⟨RX0, "leastLeft", "()I"⟩
def RX1 : String := "StageMachine$Change"
def TX1 : u_T := fun k => match k with
  | 0 => ("StageMachine$Change", "stage", "LStageMachine$Stage;", true)
  | 1 => ("StageMachine$Change", "ropes", "[I", true)
  | 2 => ("StageMachine$Change", "drums", "[I", true)
  | 3 => ("StageMachine$Change", "shares", "[I", true)
  | 4 => ("StageMachine$Change", "asked", "Z", false)
  | 5 => ("StageMachine$Change", "found", "Z", false)
  | 6 => ("StageMachine$Change", "twos", "I", false)
  | 7 => ("StageMachine$Change", "threes", "I", false)
  | _ => ("StageMachine$Change", "fives", "I", false)
def tyX1 : Nat → FieldType := fun k => match k with
  | 0 => .object "StageMachine$Stage"
  | 1 => .array .int
  | 2 => .array .int
  | 3 => .array .int
  | 4 => .boolean
  | 5 => .boolean
  | 6 => .int
  | 7 => .int
  | _ => .int
abbrev wsX10 : List Cond := u_ws RX1 TX1 9
theorem nmX1 : ∀ a, a < 9 → ∀ b, b < 9 → a ≠ b → (TX1 a).2.1 ≠ (TX1 b).2.1 := by decide +kernel
theorem tyX1_ok : ∀ k, k < 9 → parseFieldDescriptor (TX1 k).2.2.1 = some (tyX1 k) := by decide +kernel
abbrev cX1_init : ByteArray := prog_3_method_1_code
def yX1_init : MethodName := ⟨RX1, "<init>", "(LStageMachine$Stage;)V"⟩
abbrev cX1_plan : ByteArray := prog_3_method_2_code
def yX1_plan : MethodName := ⟨RX1, "plan", "(II)I"⟩
abbrev cX1_findTie : ByteArray := prog_3_method_3_code
def yX1_findTie : MethodName := ⟨RX1, "findTie", "(LStageMachine$Thing;II)Z"⟩
abbrev cX1_findDrum : ByteArray := prog_3_method_4_code
def yX1_findDrum : MethodName := ⟨RX1, "findDrum", "(LStageMachine$Rope;II)I"⟩
abbrev cX1_countWorks : ByteArray := prog_3_method_5_code
def yX1_countWorks : MethodName := ⟨RX1, "countWorks", "()V"⟩
abbrev cX1_isReady : ByteArray := prog_3_method_6_code
def yX1_isReady : MethodName := ⟨RX1, "isReady", "(LStageMachine$Rope;I)Z"⟩
abbrev cX1_tieOf : ByteArray := prog_3_method_7_code
def yX1_tieOf : MethodName := ⟨RX1, "tieOf", "(II)I"⟩
abbrev cX1_workFor : ByteArray := prog_3_method_8_code
def yX1_workFor : MethodName := ⟨RX1, "workFor", "(I)I"⟩
abbrev cX1_works : ByteArray := prog_3_method_9_code
def yX1_works : MethodName := ⟨RX1, "works", "()I"⟩
abbrev cX1_leastMen : ByteArray := prog_3_method_10_code
def yX1_leastMen : MethodName := ⟨RX1, "leastMen", "(I)I"⟩
abbrev cX1_longestWork : ByteArray := prog_3_method_11_code
def yX1_longestWork : MethodName := ⟨RX1, "longestWork", "()I"⟩
abbrev cX1_shareOut : ByteArray := prog_3_method_12_code
def yX1_shareOut : MethodName := ⟨RX1, "shareOut", "(I)I"⟩
abbrev cX1_leastShare : ByteArray := prog_3_method_13_code
def yX1_leastShare : MethodName := ⟨RX1, "leastShare", "(IIII)I"⟩
abbrev cX1_withWork : ByteArray := prog_3_method_14_code
def yX1_withWork : MethodName := ⟨RX1, "withWork", "(III)I"⟩
abbrev cX1_slot : ByteArray := prog_3_method_15_code
def yX1_slot : MethodName := ⟨RX1, "slot", "(III)I"⟩
def RX2 : String := "StageMachine$Drum"
def TX2 : u_T := fun k => match k with
  | 0 => ("StageMachine$Drum", "number", "I", true)
  | _ => ("StageMachine$Drum", "size", "I", true)
def tyX2 : Nat → FieldType := fun k => match k with
  | 0 => .int
  | _ => .int
abbrev wsX20 : List Cond := u_ws RX2 TX2 2
theorem nmX2 : ∀ a, a < 2 → ∀ b, b < 2 → a ≠ b → (TX2 a).2.1 ≠ (TX2 b).2.1 := by decide +kernel
theorem tyX2_ok : ∀ k, k < 2 → parseFieldDescriptor (TX2 k).2.2.1 = some (tyX2 k) := by decide +kernel
abbrev cX2_init : ByteArray := prog_4_method_1_code
def yX2_init : MethodName := ⟨RX2, "<init>", "(II)V"⟩
def RX3 : String := "StageMachine$Panel"
def TX3 : u_T := fun k => match k with
  | 0 => ("StageMachine$Panel", "height", "I", true)
  | 1 => ("StageMachine$Panel", "width", "I", true)
  | _ => ("StageMachine$Panel", "paint", "I", true)
def tyX3 : Nat → FieldType := fun k => match k with
  | 0 => .int
  | 1 => .int
  | _ => .int
abbrev wsX30 : List Cond := u_ws RX3 TX3 3
theorem nmX3 : ∀ a, a < 3 → ∀ b, b < 3 → a ≠ b → (TX3 a).2.1 ≠ (TX3 b).2.1 := by decide +kernel
theorem tyX3_ok : ∀ k, k < 3 → parseFieldDescriptor (TX3 k).2.2.1 = some (tyX3 k) := by decide +kernel
abbrev cX3_init : ByteArray := prog_5_method_1_code
def yX3_init : MethodName := ⟨RX3, "<init>", "(II)V"⟩
abbrev cX3_area : ByteArray := prog_5_method_2_code
def yX3_area : MethodName := ⟨RX3, "area", "()I"⟩
abbrev cX3_serves : ByteArray := prog_5_method_3_code
def yX3_serves : MethodName := ⟨RX3, "serves", "(LStageMachine$Panel;)Z"⟩
abbrev cX3_priceFor : ByteArray := prog_5_method_4_code
def yX3_priceFor : MethodName := ⟨RX3, "priceFor", "(LStageMachine$Panel;)I"⟩
def RX4 : String := "StageMachine$Rope"
def TX4 : u_T := fun k => match k with
  | 0 => ("StageMachine$Rope", "number", "I", true)
  | 1 => ("StageMachine$Rope", "thing", "LStageMachine$Thing;", true)
  | 2 => ("StageMachine$Rope", "way", "I", true)
  | 3 => ("StageMachine$Rope", "gear", "I", true)
  | 4 => ("StageMachine$Rope", "holds", "I", true)
  | 5 => ("StageMachine$Rope", "drum", "LStageMachine$Drum;", false)
  | 6 => ("StageMachine$Rope", "start", "I", false)
  | 7 => ("StageMachine$Rope", "done", "I", false)
  | 8 => ("StageMachine$Rope", "gone", "Z", false)
  | 9 => ("StageMachine$Rope", "keptDrum", "LStageMachine$Drum;", false)
  | 10 => ("StageMachine$Rope", "keptStart", "I", false)
  | _ => ("StageMachine$Rope", "keptDone", "I", false)
def tyX4 : Nat → FieldType := fun k => match k with
  | 0 => .int
  | 1 => .object "StageMachine$Thing"
  | 2 => .int
  | 3 => .int
  | 4 => .int
  | 5 => .object "StageMachine$Drum"
  | 6 => .int
  | 7 => .int
  | 8 => .boolean
  | 9 => .object "StageMachine$Drum"
  | 10 => .int
  | _ => .int
abbrev wsX40 : List Cond := u_ws RX4 TX4 12
theorem nmX4 : ∀ a, a < 12 → ∀ b, b < 12 → a ≠ b → (TX4 a).2.1 ≠ (TX4 b).2.1 := by decide +kernel
theorem tyX4_ok : ∀ k, k < 12 → parseFieldDescriptor (TX4 k).2.2.1 = some (tyX4 k) := by decide +kernel
abbrev cX4_init : ByteArray := prog_6_method_1_code
def yX4_init : MethodName := ⟨RX4, "<init>", "(ILStageMachine$Thing;III)V"⟩
abbrev cX4_tell : ByteArray := prog_6_method_2_code
def yX4_tell : MethodName := ⟨RX4, "tell", "(I)I"⟩
abbrev cX4_load : ByteArray := prog_6_method_3_code
def yX4_load : MethodName := ⟨RX4, "load", "()I"⟩
abbrev cX4_spare : ByteArray := prog_6_method_4_code
def yX4_spare : MethodName := ⟨RX4, "spare", "()I"⟩
abbrev cX4_placeFrom : ByteArray := prog_6_method_5_code
def yX4_placeFrom : MethodName := ⟨RX4, "placeFrom", "(II)I"⟩
abbrev cX4_doneAfter : ByteArray := prog_6_method_6_code
def yX4_doneAfter : MethodName := ⟨RX4, "doneAfter", "(I)I"⟩
abbrev cX4_pullAt : ByteArray := prog_6_method_7_code
def yX4_pullAt : MethodName := ⟨RX4, "pullAt", "(I)I"⟩
abbrev cX4_stepsToNextPlace : ByteArray := prog_6_method_8_code
def yX4_stepsToNextPlace : MethodName := ⟨RX4, "stepsToNextPlace", "(II)I"⟩
abbrev cX4_advance : ByteArray := prog_6_method_9_code
def yX4_advance : MethodName := ⟨RX4, "advance", "(I)V"⟩
abbrev cX4_bind : ByteArray := prog_6_method_10_code
def yX4_bind : MethodName := ⟨RX4, "bind", "(LStageMachine$Drum;)V"⟩
abbrev cX4_loosen : ByteArray := prog_6_method_11_code
def yX4_loosen : MethodName := ⟨RX4, "loosen", "()V"⟩
def RX5 : String := "StageMachine$Stage"
def TX5 : u_T := fun k => match k with
  | 0 => ("StageMachine$Stage", "things", "[LStageMachine$Thing;", true)
  | 1 => ("StageMachine$Stage", "drums", "[LStageMachine$Drum;", true)
  | 2 => ("StageMachine$Stage", "ropes", "[LStageMachine$Rope;", true)
  | 3 => ("StageMachine$Stage", "weights", "[I", true)
  | 4 => ("StageMachine$Stage", "keptWeights", "[I", true)
  | 5 => ("StageMachine$Stage", "catches", "[I", true)
  | 6 => ("StageMachine$Stage", "catchCounts", "[I", true)
  | 7 => ("StageMachine$Stage", "thingCount", "I", false)
  | 8 => ("StageMachine$Stage", "drumCount", "I", false)
  | 9 => ("StageMachine$Stage", "ropeCount", "I", false)
  | 10 => ("StageMachine$Stage", "bound", "I", false)
  | 11 => ("StageMachine$Stage", "shaft", "I", false)
  | 12 => ("StageMachine$Stage", "wear", "I", false)
  | 13 => ("StageMachine$Stage", "keptShaft", "I", false)
  | _ => ("StageMachine$Stage", "keptWear", "I", false)
def tyX5 : Nat → FieldType := fun k => match k with
  | 0 => .array (.object "StageMachine$Thing")
  | 1 => .array (.object "StageMachine$Drum")
  | 2 => .array (.object "StageMachine$Rope")
  | 3 => .array .int
  | 4 => .array .int
  | 5 => .array .int
  | 6 => .array .int
  | 7 => .int
  | 8 => .int
  | 9 => .int
  | 10 => .int
  | 11 => .int
  | 12 => .int
  | 13 => .int
  | _ => .int
abbrev wsX50 : List Cond := u_ws RX5 TX5 15
theorem nmX5 : ∀ a, a < 15 → ∀ b, b < 15 → a ≠ b → (TX5 a).2.1 ≠ (TX5 b).2.1 := by decide +kernel
theorem tyX5_ok : ∀ k, k < 15 → parseFieldDescriptor (TX5 k).2.2.1 = some (tyX5 k) := by decide +kernel
abbrev cX5_init : ByteArray := prog_7_method_1_code
def yX5_init : MethodName := ⟨RX5, "<init>", "()V"⟩
abbrev cX5_thingNumbered : ByteArray := prog_7_method_2_code
def yX5_thingNumbered : MethodName := ⟨RX5, "thingNumbered", "(I)LStageMachine$Thing;"⟩
abbrev cX5_drumNumbered : ByteArray := prog_7_method_3_code
def yX5_drumNumbered : MethodName := ⟨RX5, "drumNumbered", "(I)LStageMachine$Drum;"⟩
abbrev cX5_ropeNumbered : ByteArray := prog_7_method_4_code
def yX5_ropeNumbered : MethodName := ⟨RX5, "ropeNumbered", "(I)LStageMachine$Rope;"⟩
abbrev cX5_addThing : ByteArray := prog_7_method_5_code
def yX5_addThing : MethodName := ⟨RX5, "addThing", "(IIII)I"⟩
abbrev cX5_addDrum : ByteArray := prog_7_method_6_code
def yX5_addDrum : MethodName := ⟨RX5, "addDrum", "(I)I"⟩
abbrev cX5_addRope : ByteArray := prog_7_method_7_code
def yX5_addRope : MethodName := ⟨RX5, "addRope", "(III)I"⟩
abbrev cX5_standingOn : ByteArray := prog_7_method_8_code
def yX5_standingOn : MethodName := ⟨RX5, "standingOn", "(I)I"⟩
abbrev cX5_isClear : ByteArray := prog_7_method_9_code
def yX5_isClear : MethodName := ⟨RX5, "isClear", "(LStageMachine$Thing;III)Z"⟩
abbrev cX5_tieRope : ByteArray := prog_7_method_10_code
def yX5_tieRope : MethodName := ⟨RX5, "tieRope", "(II)I"⟩
abbrev cX5_untieRope : ByteArray := prog_7_method_11_code
def yX5_untieRope : MethodName := ⟨RX5, "untieRope", "(I)I"⟩
abbrev cX5_tiedCount : ByteArray := prog_7_method_12_code
def yX5_tiedCount : MethodName := ⟨RX5, "tiedCount", "()I"⟩
abbrev cX5_setWeight : ByteArray := prog_7_method_13_code
def yX5_setWeight : MethodName := ⟨RX5, "setWeight", "(II)I"⟩
abbrev cX5_setBound : ByteArray := prog_7_method_14_code
def yX5_setBound : MethodName := ⟨RX5, "setBound", "(I)I"⟩
abbrev cX5_pullNow : ByteArray := prog_7_method_15_code
def yX5_pullNow : MethodName := ⟨RX5, "pullNow", "()I"⟩
abbrev cX5_place : ByteArray := prog_7_method_16_code
def yX5_place : MethodName := ⟨RX5, "place", "(I)V"⟩
abbrev cX5_trialPull : ByteArray := prog_7_method_17_code
def yX5_trialPull : MethodName := ⟨RX5, "trialPull", "()I"⟩
abbrev cX5_advance : ByteArray := prog_7_method_18_code
def yX5_advance : MethodName := ⟨RX5, "advance", "(I)V"⟩
abbrev cX5_breakRope : ByteArray := prog_7_method_19_code
def yX5_breakRope : MethodName := ⟨RX5, "breakRope", "(I)I"⟩
abbrev cX5_fall : ByteArray := prog_7_method_20_code
def yX5_fall : MethodName := ⟨RX5, "fall", "(LStageMachine$Thing;II)I"⟩
abbrev cX5_canFall : ByteArray := prog_7_method_21_code
def yX5_canFall : MethodName := ⟨RX5, "canFall", "(LStageMachine$Thing;I)Z"⟩
abbrev cX5_isCatch : ByteArray := prog_7_method_22_code
def yX5_isCatch : MethodName := ⟨RX5, "isCatch", "(II)Z"⟩
abbrev cX5_addCatch : ByteArray := prog_7_method_23_code
def yX5_addCatch : MethodName := ⟨RX5, "addCatch", "(I)I"⟩
abbrev cX5_isStagePlace : ByteArray := prog_7_method_24_code
def yX5_isStagePlace : MethodName := ⟨RX5, "isStagePlace", "(I)Z"⟩
abbrev cX5_keep : ByteArray := prog_7_method_25_code
def yX5_keep : MethodName := ⟨RX5, "keep", "()V"⟩
abbrev cX5_restore : ByteArray := prog_7_method_26_code
def yX5_restore : MethodName := ⟨RX5, "restore", "()V"⟩
def RX6 : String := "StageMachine$Stock"
def TX6 : u_T := fun k => match k with
  | 0 => ("StageMachine$Stock", "flats", "[LStageMachine$Panel;", true)
  | 1 => ("StageMachine$Stock", "wants", "[LStageMachine$Panel;", true)
  | 2 => ("StageMachine$Stock", "givenFlats", "[I", true)
  | 3 => ("StageMachine$Stock", "sums", "[I", true)
  | 4 => ("StageMachine$Stock", "flatCount", "I", false)
  | 5 => ("StageMachine$Stock", "wantCount", "I", false)
  | _ => ("StageMachine$Stock", "givenCount", "I", false)
def tyX6 : Nat → FieldType := fun k => match k with
  | 0 => .array (.object "StageMachine$Panel")
  | 1 => .array (.object "StageMachine$Panel")
  | 2 => .array .int
  | 3 => .array .int
  | 4 => .int
  | 5 => .int
  | _ => .int
abbrev wsX60 : List Cond := u_ws RX6 TX6 7
theorem nmX6 : ∀ a, a < 7 → ∀ b, b < 7 → a ≠ b → (TX6 a).2.1 ≠ (TX6 b).2.1 := by decide +kernel
theorem tyX6_ok : ∀ k, k < 7 → parseFieldDescriptor (TX6 k).2.2.1 = some (tyX6 k) := by decide +kernel
abbrev cX6_init : ByteArray := prog_8_method_1_code
def yX6_init : MethodName := ⟨RX6, "<init>", "()V"⟩
abbrev cX6_addFlat : ByteArray := prog_8_method_2_code
def yX6_addFlat : MethodName := ⟨RX6, "addFlat", "(II)I"⟩
abbrev cX6_addWant : ByteArray := prog_8_method_3_code
def yX6_addWant : MethodName := ⟨RX6, "addWant", "(II)I"⟩
abbrev cX6_isPanel : ByteArray := prog_8_method_4_code
def yX6_isPanel : MethodName := ⟨RX6, "isPanel", "(II)Z"⟩
abbrev cX6_leastPainting : ByteArray := prog_8_method_5_code
def yX6_leastPainting : MethodName := ⟨RX6, "leastPainting", "()I"⟩
abbrev cX6_leastSum : ByteArray := prog_8_method_6_code
def yX6_leastSum : MethodName := ⟨RX6, "leastSum", "()I"⟩
abbrev cX6_leastSumBehind : ByteArray := prog_8_method_7_code
def yX6_leastSumBehind : MethodName := ⟨RX6, "leastSumBehind", "(ILStageMachine$Panel;)I"⟩
abbrev cX6_sumWith : ByteArray := prog_8_method_8_code
def yX6_sumWith : MethodName := ⟨RX6, "sumWith", "(IILStageMachine$Panel;)I"⟩
abbrev cX6_give : ByteArray := prog_8_method_9_code
def yX6_give : MethodName := ⟨RX6, "give", "()V"⟩
abbrev cX6_givenTo : ByteArray := prog_8_method_10_code
def yX6_givenTo : MethodName := ⟨RX6, "givenTo", "(I)I"⟩
def RX7 : String := "StageMachine$Stop"
def TX7 : u_T := fun k => match k with
  | 0 => ("StageMachine$Stop", "kind", "I", false)
  | 1 => ("StageMachine$Stop", "thing", "I", false)
  | _ => ("StageMachine$Stop", "other", "I", false)
def tyX7 : Nat → FieldType := fun k => match k with
  | 0 => .int
  | 1 => .int
  | _ => .int
abbrev wsX70 : List Cond := u_ws RX7 TX7 3
theorem nmX7 : ∀ a, a < 3 → ∀ b, b < 3 → a ≠ b → (TX7 a).2.1 ≠ (TX7 b).2.1 := by decide +kernel
theorem tyX7_ok : ∀ k, k < 3 → parseFieldDescriptor (TX7 k).2.2.1 = some (tyX7 k) := by decide +kernel
abbrev cX7_init : ByteArray := prog_9_method_1_code
def yX7_init : MethodName := ⟨RX7, "<init>", "()V"⟩
abbrev cX7_put : ByteArray := prog_9_method_2_code
def yX7_put : MethodName := ⟨RX7, "put", "(III)V"⟩
abbrev cX7_tell : ByteArray := prog_9_method_3_code
def yX7_tell : MethodName := ⟨RX7, "tell", "(I)I"⟩
def RX8 : String := "StageMachine$Tape"
def TX8 : u_T := fun k => match k with
  | 0 => ("StageMachine$Tape", "bytes", "[I", true)
  | 1 => ("StageMachine$Tape", "letters", "[I", true)
  | 2 => ("StageMachine$Tape", "firsts", "[I", true)
  | 3 => ("StageMachine$Tape", "seconds", "[I", true)
  | 4 => ("StageMachine$Tape", "length", "I", false)
  | 5 => ("StageMachine$Tape", "lineCount", "I", false)
  | 6 => ("StageMachine$Tape", "next", "I", false)
  | _ => ("StageMachine$Tape", "number", "I", false)
def tyX8 : Nat → FieldType := fun k => match k with
  | 0 => .array .int
  | 1 => .array .int
  | 2 => .array .int
  | 3 => .array .int
  | 4 => .int
  | 5 => .int
  | 6 => .int
  | _ => .int
abbrev wsX80 : List Cond := u_ws RX8 TX8 8
theorem nmX8 : ∀ a, a < 8 → ∀ b, b < 8 → a ≠ b → (TX8 a).2.1 ≠ (TX8 b).2.1 := by decide +kernel
theorem tyX8_ok : ∀ k, k < 8 → parseFieldDescriptor (TX8 k).2.2.1 = some (tyX8 k) := by decide +kernel
abbrev cX8_init : ByteArray := prog_10_method_1_code
def yX8_init : MethodName := ⟨RX8, "<init>", "()V"⟩
abbrev cX8_take : ByteArray := prog_10_method_2_code
def yX8_take : MethodName := ⟨RX8, "take", "(II)I"⟩
abbrev cX8_readLines : ByteArray := prog_10_method_3_code
def yX8_readLines : MethodName := ⟨RX8, "readLines", "()I"⟩
abbrev cX8_readLine : ByteArray := prog_10_method_4_code
def yX8_readLine : MethodName := ⟨RX8, "readLine", "(I)Z"⟩
abbrev cX8_readOne : ByteArray := prog_10_method_5_code
def yX8_readOne : MethodName := ⟨RX8, "readOne", "(IZ)Z"⟩
abbrev cX8_readTwo : ByteArray := prog_10_method_6_code
def yX8_readTwo : MethodName := ⟨RX8, "readTwo", "(IZ)Z"⟩
abbrev cX8_readNumber : ByteArray := prog_10_method_7_code
def yX8_readNumber : MethodName := ⟨RX8, "readNumber", "(Z)Z"⟩
abbrev cX8_readSign : ByteArray := prog_10_method_8_code
def yX8_readSign : MethodName := ⟨RX8, "readSign", "(I)Z"⟩
abbrev cX8_peek : ByteArray := prog_10_method_9_code
def yX8_peek : MethodName := ⟨RX8, "peek", "()I"⟩
def RX9 : String := "StageMachine$Thing"
def TX9 : u_T := fun k => match k with
  | 0 => ("StageMachine$Thing", "number", "I", true)
  | 1 => ("StageMachine$Thing", "lane", "I", true)
  | 2 => ("StageMachine$Thing", "width", "I", true)
  | 3 => ("StageMachine$Thing", "weight", "I", true)
  | 4 => ("StageMachine$Thing", "least", "I", true)
  | 5 => ("StageMachine$Thing", "most", "I", true)
  | 6 => ("StageMachine$Thing", "sceneAt", "[I", true)
  | 7 => ("StageMachine$Thing", "at", "I", false)
  | 8 => ("StageMachine$Thing", "trialAt", "I", false)
  | 9 => ("StageMachine$Thing", "tied", "LStageMachine$Rope;", false)
  | 10 => ("StageMachine$Thing", "keptAt", "I", false)
  | _ => ("StageMachine$Thing", "keptTied", "LStageMachine$Rope;", false)
def tyX9 : Nat → FieldType := fun k => match k with
  | 0 => .int
  | 1 => .int
  | 2 => .int
  | 3 => .int
  | 4 => .int
  | 5 => .int
  | 6 => .array .int
  | 7 => .int
  | 8 => .int
  | 9 => .object "StageMachine$Rope"
  | 10 => .int
  | _ => .object "StageMachine$Rope"
abbrev wsX90 : List Cond := u_ws RX9 TX9 12
theorem nmX9 : ∀ a, a < 12 → ∀ b, b < 12 → a ≠ b → (TX9 a).2.1 ≠ (TX9 b).2.1 := by decide +kernel
theorem tyX9_ok : ∀ k, k < 12 → parseFieldDescriptor (TX9 k).2.2.1 = some (tyX9 k) := by decide +kernel
abbrev cX9_init : ByteArray := prog_11_method_1_code
def yX9_init : MethodName := ⟨RX9, "<init>", "(IIIIIII)V"⟩
abbrev cX9_tell : ByteArray := prog_11_method_2_code
def yX9_tell : MethodName := ⟨RX9, "tell", "(I)I"⟩
abbrev cX9_tellScene : ByteArray := prog_11_method_3_code
def yX9_tellScene : MethodName := ⟨RX9, "tellScene", "(II)I"⟩
abbrev cX9_covers : ByteArray := prog_11_method_4_code
def yX9_covers : MethodName := ⟨RX9, "covers", "(I)Z"⟩
abbrev cX9_wouldMeet : ByteArray := prog_11_method_5_code
def yX9_wouldMeet : MethodName := ⟨RX9, "wouldMeet", "(LStageMachine$Thing;)Z"⟩
def RX10 : String := "StageMachine$Turning"
def TX10 : u_T := fun k => match k with
  | 0 => ("StageMachine$Turning", "stage", "LStageMachine$Stage;", true)
  | 1 => ("StageMachine$Turning", "latest", "LStageMachine$Stop;", true)
  | _ => ("StageMachine$Turning", "ahead", "LStageMachine$Stop;", true)
def tyX10 : Nat → FieldType := fun k => match k with
  | 0 => .object "StageMachine$Stage"
  | 1 => .object "StageMachine$Stop"
  | _ => .object "StageMachine$Stop"
abbrev wsX100 : List Cond := u_ws RX10 TX10 3
theorem nmX10 : ∀ a, a < 3 → ∀ b, b < 3 → a ≠ b → (TX10 a).2.1 ≠ (TX10 b).2.1 := by decide +kernel
theorem tyX10_ok : ∀ k, k < 3 → parseFieldDescriptor (TX10 k).2.2.1 = some (tyX10 k) := by decide +kernel
abbrev cX10_init : ByteArray := prog_12_method_1_code
def yX10_init : MethodName := ⟨RX10, "<init>", "(LStageMachine$Stage;)V"⟩
abbrev cX10_turnBy : ByteArray := prog_12_method_2_code
def yX10_turnBy : MethodName := ⟨RX10, "turnBy", "(I)I"⟩
abbrev cX10_lookAhead : ByteArray := prog_12_method_3_code
def yX10_lookAhead : MethodName := ⟨RX10, "lookAhead", "(I)I"⟩
abbrev cX10_stepsToNextMove : ByteArray := prog_12_method_4_code
def yX10_stepsToNextMove : MethodName := ⟨RX10, "stepsToNextMove", "(II)I"⟩
abbrev cX10_isBeyond : ByteArray := prog_12_method_5_code
def yX10_isBeyond : MethodName := ⟨RX10, "isBeyond", "()Z"⟩
abbrev cX10_isMeeting : ByteArray := prog_12_method_6_code
def yX10_isMeeting : MethodName := ⟨RX10, "isMeeting", "()Z"⟩
abbrev cX10_isUneven : ByteArray := prog_12_method_7_code
def yX10_isUneven : MethodName := ⟨RX10, "isUneven", "(I)Z"⟩
def RX11 : String := "StageMachine"
def TX11 : u_T := fun k => match k with
  | 0 => ("StageMachine", "stage", "LStageMachine$Stage;", true)
  | 1 => ("StageMachine", "turning", "LStageMachine$Turning;", true)
  | 2 => ("StageMachine", "latestChange", "LStageMachine$Change;", true)
  | 3 => ("StageMachine", "tape", "LStageMachine$Tape;", true)
  | 4 => ("StageMachine", "candles", "LStageMachine$Candles;", true)
  | 5 => ("StageMachine", "stock", "LStageMachine$Stock;", true)
  | _ => ("StageMachine", "cueCanGoBack", "Z", false)
def tyX11 : Nat → FieldType := fun k => match k with
  | 0 => .object "StageMachine$Stage"
  | 1 => .object "StageMachine$Turning"
  | 2 => .object "StageMachine$Change"
  | 3 => .object "StageMachine$Tape"
  | 4 => .object "StageMachine$Candles"
  | 5 => .object "StageMachine$Stock"
  | _ => .boolean
abbrev wsX110 : List Cond := u_ws RX11 TX11 7
theorem nmX11 : ∀ a, a < 7 → ∀ b, b < 7 → a ≠ b → (TX11 a).2.1 ≠ (TX11 b).2.1 := by decide +kernel
theorem tyX11_ok : ∀ k, k < 7 → parseFieldDescriptor (TX11 k).2.2.1 = some (tyX11 k) := by decide +kernel
abbrev cX11_init : ByteArray := prog_1_method_1_code
def yX11_init : MethodName := ⟨RX11, "<init>", "()V"⟩
abbrev cX11_thing : ByteArray := prog_1_method_2_code
def yX11_thing : MethodName := ⟨RX11, "thing", "(IIII)I"⟩
abbrev cX11_ofThing : ByteArray := prog_1_method_3_code
def yX11_ofThing : MethodName := ⟨RX11, "ofThing", "(II)I"⟩
abbrev cX11_on : ByteArray := prog_1_method_4_code
def yX11_on : MethodName := ⟨RX11, "on", "(I)I"⟩
abbrev cX11_drum : ByteArray := prog_1_method_5_code
def yX11_drum : MethodName := ⟨RX11, "drum", "(I)I"⟩
abbrev cX11_rope : ByteArray := prog_1_method_6_code
def yX11_rope : MethodName := ⟨RX11, "rope", "(III)I"⟩
abbrev cX11_ofRope : ByteArray := prog_1_method_7_code
def yX11_ofRope : MethodName := ⟨RX11, "ofRope", "(II)I"⟩
abbrev cX11_tie : ByteArray := prog_1_method_8_code
def yX11_tie : MethodName := ⟨RX11, "tie", "(II)I"⟩
abbrev cX11_untie : ByteArray := prog_1_method_9_code
def yX11_untie : MethodName := ⟨RX11, "untie", "(I)I"⟩
abbrev cX11_weight : ByteArray := prog_1_method_10_code
def yX11_weight : MethodName := ⟨RX11, "weight", "(II)I"⟩
abbrev cX11_bound : ByteArray := prog_1_method_11_code
def yX11_bound : MethodName := ⟨RX11, "bound", "(I)I"⟩
abbrev cX11_pull : ByteArray := prog_1_method_12_code
def yX11_pull : MethodName := ⟨RX11, "pull", "()I"⟩
abbrev cX11_turn : ByteArray := prog_1_method_13_code
def yX11_turn : MethodName := ⟨RX11, "turn", "(I)I"⟩
abbrev cX11_stopped : ByteArray := prog_1_method_14_code
def yX11_stopped : MethodName := ⟨RX11, "stopped", "(I)I"⟩
abbrev cX11_free : ByteArray := prog_1_method_15_code
def yX11_free : MethodName := ⟨RX11, "free", "(I)I"⟩
abbrev cX11_snap : ByteArray := prog_1_method_16_code
def yX11_snap : MethodName := ⟨RX11, "snap", "(I)I"⟩
abbrev cX11_hold : ByteArray := prog_1_method_17_code
def yX11_hold : MethodName := ⟨RX11, "hold", "(I)I"⟩
abbrev cX11_scene : ByteArray := prog_1_method_18_code
def yX11_scene : MethodName := ⟨RX11, "scene", "(III)I"⟩
abbrev cX11_change : ByteArray := prog_1_method_19_code
def yX11_change : MethodName := ⟨RX11, "change", "(II)I"⟩
abbrev cX11_told : ByteArray := prog_1_method_20_code
def yX11_told : MethodName := ⟨RX11, "told", "(II)I"⟩
abbrev cX11_work : ByteArray := prog_1_method_21_code
def yX11_work : MethodName := ⟨RX11, "work", "(I)I"⟩
abbrev cX11_men : ByteArray := prog_1_method_22_code
def yX11_men : MethodName := ⟨RX11, "men", "(I)I"⟩
abbrev cX11_feed : ByteArray := prog_1_method_23_code
def yX11_feed : MethodName := ⟨RX11, "feed", "(II)I"⟩
abbrev cX11_play : ByteArray := prog_1_method_24_code
def yX11_play : MethodName := ⟨RX11, "play", "()I"⟩
abbrev cX11_back : ByteArray := prog_1_method_25_code
def yX11_back : MethodName := ⟨RX11, "back", "()I"⟩
abbrev cX11_candle : ByteArray := prog_1_method_26_code
def yX11_candle : MethodName := ⟨RX11, "candle", "(I)I"⟩
abbrev cX11_minutes : ByteArray := prog_1_method_27_code
def yX11_minutes : MethodName := ⟨RX11, "minutes", "(I)I"⟩
abbrev cX11_trim : ByteArray := prog_1_method_28_code
def yX11_trim : MethodName := ⟨RX11, "trim", "(I)I"⟩
abbrev cX11_light : ByteArray := prog_1_method_29_code
def yX11_light : MethodName := ⟨RX11, "light", "(I)I"⟩
abbrev cX11_flat : ByteArray := prog_1_method_30_code
def yX11_flat : MethodName := ⟨RX11, "flat", "(II)I"⟩
abbrev cX11_want : ByteArray := prog_1_method_31_code
def yX11_want : MethodName := ⟨RX11, "want", "(II)I"⟩
abbrev cX11_paint : ByteArray := prog_1_method_32_code
def yX11_paint : MethodName := ⟨RX11, "paint", "()I"⟩
abbrev cX11_given : ByteArray := prog_1_method_33_code
def yX11_given : MethodName := ⟨RX11, "given", "(I)I"⟩
abbrev cX11_count : ByteArray := prog_1_method_34_code
def yX11_count : MethodName := ⟨RX11, "count", "(I)I"⟩
abbrev cX11_deed : ByteArray := prog_1_method_35_code
def yX11_deed : MethodName := ⟨RX11, "deed", "(IZ)I"⟩
abbrev cX11_playLine : ByteArray := prog_1_method_36_code
def yX11_playLine : MethodName := ⟨RX11, "playLine", "(I)I"⟩
abbrev cX11_isTurn : ByteArray := prog_1_method_37_code
def yX11_isTurn : MethodName := ⟨RX11, "isTurn", "(I)Z"⟩
abbrev cX11_isWithin : ByteArray := prog_1_method_38_code
def yX11_isWithin : MethodName := ⟨RX11, "isWithin", "(III)Z"⟩
abbrev cX11_quotient : ByteArray := prog_1_method_39_code
def yX11_quotient : MethodName := ⟨RX11, "quotient", "(II)I"⟩
abbrev cX11_quotientUp : ByteArray := prog_1_method_40_code
def yX11_quotientUp : MethodName := ⟨RX11, "quotientUp", "(II)I"⟩
abbrev cX11_overlap : ByteArray := prog_1_method_41_code
def yX11_overlap : MethodName := ⟨RX11, "overlap", "(IIII)Z"⟩
def RX12 : String := "StageMachineModel"
def TX12 : u_T := fun k => match k with
  | 0 => ("StageMachineModel", "code", "I", false)
  | 1 => ("StageMachineModel", "things", "I", false)
  | 2 => ("StageMachineModel", "lane", "[I", true)
  | 3 => ("StageMachineModel", "width", "[I", true)
  | 4 => ("StageMachineModel", "weightOf", "[I", true)
  | 5 => ("StageMachineModel", "at", "[I", true)
  | 6 => ("StageMachineModel", "least", "[I", true)
  | 7 => ("StageMachineModel", "most", "[I", true)
  | 8 => ("StageMachineModel", "atThen", "[I", true)
  | 9 => ("StageMachineModel", "drums", "I", false)
  | 10 => ("StageMachineModel", "size", "[I", true)
  | 11 => ("StageMachineModel", "ropes", "I", false)
  | 12 => ("StageMachineModel", "ropeThing", "[I", true)
  | 13 => ("StageMachineModel", "gear", "[I", true)
  | 14 => ("StageMachineModel", "way", "[I", true)
  | 15 => ("StageMachineModel", "holds", "[I", true)
  | 16 => ("StageMachineModel", "drumOf", "[I", true)
  | 17 => ("StageMachineModel", "done", "[I", true)
  | 18 => ("StageMachineModel", "isGone", "[Z", true)
  | 19 => ("StageMachineModel", "counter", "[I", true)
  | 20 => ("StageMachineModel", "bound", "I", false)
  | 21 => ("StageMachineModel", "shaft", "I", false)
  | 22 => ("StageMachineModel", "wear", "I", false)
  | 23 => ("StageMachineModel", "why", "I", false)
  | 24 => ("StageMachineModel", "whyThing", "I", false)
  | 25 => ("StageMachineModel", "whyOther", "I", false)
  | 26 => ("StageMachineModel", "catches", "[I", true)
  | 27 => ("StageMachineModel", "catchAt", "[I", true)
  | 28 => ("StageMachineModel", "scenes", "[I", true)
  | 29 => ("StageMachineModel", "hasChange", "Z", false)
  | 30 => ("StageMachineModel", "isNone", "Z", false)
  | 31 => ("StageMachineModel", "toldRope", "[I", true)
  | 32 => ("StageMachineModel", "toldDrum", "[I", true)
  | 33 => ("StageMachineModel", "works", "[I", true)
  | 34 => ("StageMachineModel", "toldMany", "I", false)
  | 35 => ("StageMachineModel", "leastMen", "[I", true)
  | 36 => ("StageMachineModel", "tape", "[B", true)
  | 37 => ("StageMachineModel", "taped", "I", false)
  | 38 => ("StageMachineModel", "here", "I", false)
  | 39 => ("StageMachineModel", "lines", "I", false)
  | 40 => ("StageMachineModel", "lineWhat", "[I", true)
  | 41 => ("StageMachineModel", "lineA", "[I", true)
  | 42 => ("StageMachineModel", "lineB", "[I", true)
  | 43 => ("StageMachineModel", "canBack", "Z", false)
  | 44 => ("StageMachineModel", "keptAt", "[I", true)
  | 45 => ("StageMachineModel", "keptThen", "[I", true)
  | 46 => ("StageMachineModel", "keptDrum", "[I", true)
  | 47 => ("StageMachineModel", "keptDone", "[I", true)
  | 48 => ("StageMachineModel", "keptCounter", "[I", true)
  | 49 => ("StageMachineModel", "keptShaft", "I", false)
  | 50 => ("StageMachineModel", "keptWear", "I", false)
  | 51 => ("StageMachineModel", "number", "I", false)
  | 52 => ("StageMachineModel", "time", "I", false)
  | 53 => ("StageMachineModel", "candles", "I", false)
  | 54 => ("StageMachineModel", "burns", "[I", true)
  | 55 => ("StageMachineModel", "litAt", "[I", true)
  | 56 => ("StageMachineModel", "flats", "I", false)
  | 57 => ("StageMachineModel", "flatSize", "[I", true)
  | 58 => ("StageMachineModel", "flatPaint", "[I", true)
  | 59 => ("StageMachineModel", "wants", "I", false)
  | 60 => ("StageMachineModel", "wantSize", "[I", true)
  | 61 => ("StageMachineModel", "wantPaint", "[I", true)
  | 62 => ("StageMachineModel", "trial", "[I", true)
  | 63 => ("StageMachineModel", "givenMany", "I", false)
  | _ => ("StageMachineModel", "given", "[I", true)
def tyX12 : Nat → FieldType := fun k => match k with
  | 0 => .int
  | 1 => .int
  | 2 => .array .int
  | 3 => .array .int
  | 4 => .array .int
  | 5 => .array .int
  | 6 => .array .int
  | 7 => .array .int
  | 8 => .array .int
  | 9 => .int
  | 10 => .array .int
  | 11 => .int
  | 12 => .array .int
  | 13 => .array .int
  | 14 => .array .int
  | 15 => .array .int
  | 16 => .array .int
  | 17 => .array .int
  | 18 => .array .boolean
  | 19 => .array .int
  | 20 => .int
  | 21 => .int
  | 22 => .int
  | 23 => .int
  | 24 => .int
  | 25 => .int
  | 26 => .array .int
  | 27 => .array .int
  | 28 => .array .int
  | 29 => .boolean
  | 30 => .boolean
  | 31 => .array .int
  | 32 => .array .int
  | 33 => .array .int
  | 34 => .int
  | 35 => .array .int
  | 36 => .array .byte
  | 37 => .int
  | 38 => .int
  | 39 => .int
  | 40 => .array .int
  | 41 => .array .int
  | 42 => .array .int
  | 43 => .boolean
  | 44 => .array .int
  | 45 => .array .int
  | 46 => .array .int
  | 47 => .array .int
  | 48 => .array .int
  | 49 => .int
  | 50 => .int
  | 51 => .int
  | 52 => .int
  | 53 => .int
  | 54 => .array .int
  | 55 => .array .int
  | 56 => .int
  | 57 => .array .int
  | 58 => .array .int
  | 59 => .int
  | 60 => .array .int
  | 61 => .array .int
  | 62 => .array .int
  | 63 => .int
  | _ => .array .int
abbrev wsX120 : List Cond := u_ws RX12 TX12 65
theorem nmX12 : ∀ a, a < 65 → ∀ b, b < 65 → a ≠ b → (TX12 a).2.1 ≠ (TX12 b).2.1 := by decide +kernel
theorem tyX12_ok : ∀ k, k < 65 → parseFieldDescriptor (TX12 k).2.2.1 = some (tyX12 k) := by decide +kernel
abbrev cX12_init : ByteArray := prog_14_method_1_code
def yX12_init : MethodName := ⟨RX12, "<init>", "()V"⟩
abbrev cX12_in : ByteArray := prog_14_method_3_code
def yX12_in : MethodName := ⟨RX12, "in", "(III)Z"⟩
abbrev cX12_isThing : ByteArray := prog_14_method_4_code
def yX12_isThing : MethodName := ⟨RX12, "isThing", "(I)Z"⟩
abbrev cX12_isRope : ByteArray := prog_14_method_5_code
def yX12_isRope : MethodName := ⟨RX12, "isRope", "(I)Z"⟩
abbrev cX12_isDrum : ByteArray := prog_14_method_6_code
def yX12_isDrum : MethodName := ⟨RX12, "isDrum", "(I)Z"⟩
abbrev cX12_meets : ByteArray := prog_14_method_7_code
def yX12_meets : MethodName := ⟨RX12, "meets", "(III)Z"⟩
abbrev cX12_other : ByteArray := prog_14_method_8_code
def yX12_other : MethodName := ⟨RX12, "other", "(II)I"⟩
abbrev cX12_thing : ByteArray := prog_14_method_9_code
def yX12_thing : MethodName := ⟨RX12, "thing", "(IIII)I"⟩
abbrev cX12_tiedTo : ByteArray := prog_14_method_10_code
def yX12_tiedTo : MethodName := ⟨RX12, "tiedTo", "(I)I"⟩
abbrev cX12_ofThing : ByteArray := prog_14_method_11_code
def yX12_ofThing : MethodName := ⟨RX12, "ofThing", "(II)I"⟩
abbrev cX12_on : ByteArray := prog_14_method_12_code
def yX12_on : MethodName := ⟨RX12, "on", "(I)I"⟩
abbrev cX12_drum : ByteArray := prog_14_method_13_code
def yX12_drum : MethodName := ⟨RX12, "drum", "(I)I"⟩
abbrev cX12_rope : ByteArray := prog_14_method_14_code
def yX12_rope : MethodName := ⟨RX12, "rope", "(III)I"⟩
abbrev cX12_load : ByteArray := prog_14_method_15_code
def yX12_load : MethodName := ⟨RX12, "load", "(I)I"⟩
abbrev cX12_ofRope : ByteArray := prog_14_method_16_code
def yX12_ofRope : MethodName := ⟨RX12, "ofRope", "(II)I"⟩
abbrev cX12_tieNow : ByteArray := prog_14_method_17_code
def yX12_tieNow : MethodName := ⟨RX12, "tieNow", "(II)I"⟩
abbrev cX12_tie : ByteArray := prog_14_method_18_code
def yX12_tie : MethodName := ⟨RX12, "tie", "(II)I"⟩
abbrev cX12_untieNow : ByteArray := prog_14_method_19_code
def yX12_untieNow : MethodName := ⟨RX12, "untieNow", "(I)I"⟩
abbrev cX12_untie : ByteArray := prog_14_method_20_code
def yX12_untie : MethodName := ⟨RX12, "untie", "(I)I"⟩
abbrev cX12_weighNow : ByteArray := prog_14_method_21_code
def yX12_weighNow : MethodName := ⟨RX12, "weighNow", "(II)I"⟩
abbrev cX12_weight : ByteArray := prog_14_method_22_code
def yX12_weight : MethodName := ⟨RX12, "weight", "(II)I"⟩
abbrev cX12_bound : ByteArray := prog_14_method_23_code
def yX12_bound : MethodName := ⟨RX12, "bound", "(I)I"⟩
abbrev cX12_pull : ByteArray := prog_14_method_24_code
def yX12_pull : MethodName := ⟨RX12, "pull", "()I"⟩
abbrev cX12_place : ByteArray := prog_14_method_25_code
def yX12_place : MethodName := ⟨RX12, "place", "(I)V"⟩
abbrev cX12_find : ByteArray := prog_14_method_26_code
def yX12_find : MethodName := ⟨RX12, "find", "()V"⟩
abbrev cX12_turnNow : ByteArray := prog_14_method_27_code
def yX12_turnNow : MethodName := ⟨RX12, "turnNow", "(I)I"⟩
abbrev cX12_isTurn : ByteArray := prog_14_method_28_code
def yX12_isTurn : MethodName := ⟨RX12, "isTurn", "(I)Z"⟩
abbrev cX12_turn : ByteArray := prog_14_method_29_code
def yX12_turn : MethodName := ⟨RX12, "turn", "(I)I"⟩
abbrev cX12_stopped : ByteArray := prog_14_method_30_code
def yX12_stopped : MethodName := ⟨RX12, "stopped", "(I)I"⟩
abbrev cX12_free : ByteArray := prog_14_method_31_code
def yX12_free : MethodName := ⟨RX12, "free", "(I)I"⟩
abbrev cX12_isCaught : ByteArray := prog_14_method_32_code
def yX12_isCaught : MethodName := ⟨RX12, "isCaught", "(II)Z"⟩
abbrev cX12_hold : ByteArray := prog_14_method_33_code
def yX12_hold : MethodName := ⟨RX12, "hold", "(I)I"⟩
abbrev cX12_snap : ByteArray := prog_14_method_34_code
def yX12_snap : MethodName := ⟨RX12, "snap", "(I)I"⟩
abbrev cX12_scene : ByteArray := prog_14_method_35_code
def yX12_scene : MethodName := ⟨RX12, "scene", "(III)I"⟩
abbrev cX12_brings : ByteArray := prog_14_method_36_code
def yX12_brings : MethodName := ⟨RX12, "brings", "(III)Z"⟩
abbrev cX12_workOf : ByteArray := prog_14_method_37_code
def yX12_workOf : MethodName := ⟨RX12, "workOf", "(I)I"⟩
abbrev cX12_change : ByteArray := prog_14_method_38_code
def yX12_change : MethodName := ⟨RX12, "change", "(II)I"⟩
abbrev cX12_told : ByteArray := prog_14_method_39_code
def yX12_told : MethodName := ⟨RX12, "told", "(II)I"⟩
abbrev cX12_work : ByteArray := prog_14_method_40_code
def yX12_work : MethodName := ⟨RX12, "work", "(I)I"⟩
abbrev cX12_menFor : ByteArray := prog_14_method_41_code
def yX12_menFor : MethodName := ⟨RX12, "menFor", "(IIII)I"⟩
abbrev cX12_men : ByteArray := prog_14_method_42_code
def yX12_men : MethodName := ⟨RX12, "men", "(I)I"⟩
abbrev cX12_feed : ByteArray := prog_14_method_43_code
def yX12_feed : MethodName := ⟨RX12, "feed", "(II)I"⟩
abbrev cX12_look : ByteArray := prog_14_method_44_code
def yX12_look : MethodName := ⟨RX12, "look", "()I"⟩
abbrev cX12_takes : ByteArray := prog_14_method_45_code
def yX12_takes : MethodName := ⟨RX12, "takes", "(Z)Z"⟩
abbrev cX12_line : ByteArray := prog_14_method_46_code
def yX12_line : MethodName := ⟨RX12, "line", "()Z"⟩
abbrev cX12_keep : ByteArray := prog_14_method_47_code
def yX12_keep : MethodName := ⟨RX12, "keep", "()V"⟩
abbrev cX12_play : ByteArray := prog_14_method_48_code
def yX12_play : MethodName := ⟨RX12, "play", "()I"⟩
abbrev cX12_back : ByteArray := prog_14_method_49_code
def yX12_back : MethodName := ⟨RX12, "back", "()I"⟩
abbrev cX12_left : ByteArray := prog_14_method_50_code
def yX12_left : MethodName := ⟨RX12, "left", "(I)I"⟩
abbrev cX12_candle : ByteArray := prog_14_method_51_code
def yX12_candle : MethodName := ⟨RX12, "candle", "(I)I"⟩
abbrev cX12_minutes : ByteArray := prog_14_method_52_code
def yX12_minutes : MethodName := ⟨RX12, "minutes", "(I)I"⟩
abbrev cX12_trim : ByteArray := prog_14_method_53_code
def yX12_trim : MethodName := ⟨RX12, "trim", "(I)I"⟩
abbrev cX12_light : ByteArray := prog_14_method_54_code
def yX12_light : MethodName := ⟨RX12, "light", "(I)I"⟩
abbrev cX12_isSize : ByteArray := prog_14_method_55_code
def yX12_isSize : MethodName := ⟨RX12, "isSize", "(I)Z"⟩
abbrev cX12_flat : ByteArray := prog_14_method_56_code
def yX12_flat : MethodName := ⟨RX12, "flat", "(II)I"⟩
abbrev cX12_want : ByteArray := prog_14_method_57_code
def yX12_want : MethodName := ⟨RX12, "want", "(II)I"⟩
abbrev cX12_area : ByteArray := prog_14_method_58_code
def yX12_area : MethodName := ⟨RX12, "area", "(I)I"⟩
abbrev cX12_cost : ByteArray := prog_14_method_59_code
def yX12_cost : MethodName := ⟨RX12, "cost", "(II)I"⟩
abbrev cX12_isTaken : ByteArray := prog_14_method_60_code
def yX12_isTaken : MethodName := ⟨RX12, "isTaken", "(I)Z"⟩
abbrev cX12_costTo : ByteArray := prog_14_method_61_code
def yX12_costTo : MethodName := ⟨RX12, "costTo", "(I)I"⟩
abbrev cX12_paint : ByteArray := prog_14_method_62_code
def yX12_paint : MethodName := ⟨RX12, "paint", "()I"⟩
abbrev cX12_given : ByteArray := prog_14_method_63_code
def yX12_given : MethodName := ⟨RX12, "given", "(I)I"⟩
abbrev cX12_count : ByteArray := prog_14_method_64_code
def yX12_count : MethodName := ⟨RX12, "count", "(I)I"⟩
def RJ6 : String := "java/lang/Integer"
def TJ6 : u_T := fun k => match k with
  | _ => ("", "", "", false)
def tyJ6 : Nat → FieldType := fun k => match k with
  | _ => .int
abbrev wsJ60 : List Cond := u_ws RJ6 TJ6 0
theorem nmJ6 : ∀ a, a < 0 → ∀ b, b < 0 → a ≠ b → (TJ6 a).2.1 ≠ (TJ6 b).2.1 := by decide +kernel
theorem tyJ6_ok : ∀ k, k < 0 → parseFieldDescriptor (TJ6 k).2.2.1 = some (tyJ6 k) := by decide +kernel
abbrev cJ6_bitCount_0f7a4 : ByteArray := prog_15_method_49_code
def yJ6_bitCount_0f7a4 : MethodName := ⟨RJ6, "bitCount", "(I)I"⟩
def RJ9 : String := "java/lang/Math"
def TJ9 : u_T := fun k => match k with
  | _ => ("", "", "", false)
def tyJ9 : Nat → FieldType := fun k => match k with
  | _ => .int
abbrev wsJ90 : List Cond := u_ws RJ9 TJ9 0
theorem nmJ9 : ∀ a, a < 0 → ∀ b, b < 0 → a ≠ b → (TJ9 a).2.1 ≠ (TJ9 b).2.1 := by decide +kernel
theorem tyJ9_ok : ∀ k, k < 0 → parseFieldDescriptor (TJ9 k).2.2.1 = some (tyJ9 k) := by decide +kernel
abbrev cJ9_abs_0f7a4 : ByteArray := prog_16_method_59_code
def yJ9_abs_0f7a4 : MethodName := ⟨RJ9, "abs", "(I)I"⟩
abbrev cJ9_max_7cf53 : ByteArray := prog_16_method_65_code
def yJ9_max_7cf53 : MethodName := ⟨RJ9, "max", "(II)I"⟩
abbrev cJ9_min_7cf53 : ByteArray := prog_16_method_69_code
def yJ9_min_7cf53 : MethodName := ⟨RJ9, "min", "(II)I"⟩
def RJ10 : String := "java/lang/System"
def TJ10 : u_T := fun k => match k with
  | _ => ("", "", "", false)
def tyJ10 : Nat → FieldType := fun k => match k with
  | _ => .int
abbrev wsJ100 : List Cond := u_ws RJ10 TJ10 0
theorem nmJ10 : ∀ a, a < 0 → ∀ b, b < 0 → a ≠ b → (TJ10 a).2.1 ≠ (TJ10 b).2.1 := by decide +kernel
theorem tyJ10_ok : ∀ k, k < 0 → parseFieldDescriptor (TJ10 k).2.2.1 = some (tyJ10 k) := by decide +kernel
def RJ7 : String := "java/util/Arrays"
def TJ7 : u_T := fun k => match k with
  | _ => ("", "", "", false)
def tyJ7 : Nat → FieldType := fun k => match k with
  | _ => .int
abbrev wsJ70 : List Cond := u_ws RJ7 TJ7 0
theorem nmJ7 : ∀ a, a < 0 → ∀ b, b < 0 → a ≠ b → (TJ7 a).2.1 ≠ (TJ7 b).2.1 := by decide +kernel
theorem tyJ7_ok : ∀ k, k < 0 → parseFieldDescriptor (TJ7 k).2.2.1 = some (tyJ7 k) := by decide +kernel
abbrev cJ7_fill_53178 : ByteArray := prog_18_method_103_code
def yJ7_fill_53178 : MethodName := ⟨RJ7, "fill", "([II)V"⟩
def RL : String := "StageMachineLaw"
abbrev cL_law : ByteArray := code
def yL_law : MethodName := ⟨RL, "law", "([I)Z"⟩
end
section
/-! my heap: fields by (field number, cell), array places by (cell, place); a cell is numbered from the law's start on -/
abbrev Hs : Type := (Nat → Nat → Int32) × (Nat → Nat → Option Nat) × (Nat → Nat → Int32) × (Nat → Nat → Option Nat) × (Nat → Nat × Nat) × Nat
def gI (h : Hs) (f a : Nat) : Int32 := h.1 f a
def gR (h : Hs) (f a : Nat) : Option Nat := h.2.1 f a
def aI (h : Hs) (a j : Nat) : Int32 := h.2.2.1 a j
def aR (h : Hs) (a j : Nat) : Option Nat := h.2.2.2.1 a j
def sh (h : Hs) (a : Nat) : Nat × Nat := h.2.2.2.2.1 a
def sz (h : Hs) : Nat := h.2.2.2.2.2
def uI (h : Hs) (f a : Nat) (v : Int32) : Hs := (fun f' a' => if f' = f ∧ a' = a then v else h.1 f' a', h.2)
def uR (h : Hs) (f a : Nat) (v : Option Nat) : Hs := (h.1, fun f' a' => if f' = f ∧ a' = a then v else h.2.1 f' a', h.2.2)
def uA (h : Hs) (a j : Nat) (v : Int32) : Hs := (h.1, h.2.1, fun a' j' => if a' = a ∧ j' = j then v else h.2.2.1 a' j', h.2.2.2)
def uQ (h : Hs) (a j : Nat) (v : Option Nat) : Hs := (h.1, h.2.1, h.2.2.1, fun a' j' => if a' = a ∧ j' = j then v else h.2.2.2.1 a' j', h.2.2.2.2)
def nw (h : Hs) (k : Nat × Nat) : Hs := (fun f a => if a = sz h then 0 else h.1 f a, fun f a => if a = sz h then none else h.2.1 f a, fun a j => if a = sz h then 0 else h.2.2.1 a j, fun a j => if a = sz h then none else h.2.2.2.1 a j, fun a => if a = sz h then k else h.2.2.2.2.1 a, sz h + 1)
/-! the machine's cells out of it -/
abbrev Gl : Type := Nat × va_G × (Nat → ClassId)
abbrev cls13 : List vw_C := [(RX0, TX0, 4), (RX1, TX1, 9), (RX2, TX2, 2), (RX3, TX3, 3), (RX4, TX4, 12), (RX5, TX5, 15), (RX6, TX6, 7), (RX7, TX7, 3), (RX8, TX8, 8), (RX9, TX9, 12), (RX10, TX10, 3), (RX11, TX11, 7), (RX12, TX12, 65)]
def tyOf (c j : Nat) : FieldType := match c with
  | 0 => tyX0 j | 1 => tyX1 j | 2 => tyX2 j | 3 => tyX3 j | 4 => tyX4 j | 5 => tyX5 j | 6 => tyX6 j | 7 => tyX7 j | 8 => tyX8 j | 9 => tyX9 j | 10 => tyX10 j | 11 => tyX11 j | _ => tyX12 j
def nF (c : Nat) : Nat := match c with
  | 0 => 4 | 1 => 9 | 2 => 2 | 3 => 3 | 4 => 12 | 5 => 15 | 6 => 7 | 7 => 3 | 8 => 8 | 9 => 12 | 10 => 3 | 11 => 7 | 12 => 65 | _ => 0
def refTy (t : FieldType) : Bool := match t with
  | .object _ => true | .array _ => true | _ => false
def tys7 (E : Nat → ClassId) : List (ClassId × FieldType) := [(E 0, .int), (E 1, .boolean), (E 2, .byte), (E 3, .object RX9), (E 4, .object RX2), (E 5, .object RX4), (E 6, .object RX3)]
def rf (b : Nat) (o : Option Nat) : Option Nat := o.map (fun k => b + k)
def fv (b : Nat) (h : Hs) (c j k : Nat) : Value := if refTy (tyOf c j) = true then va_rf (rf b (gR h (100 * c + j) k)) else .int (gI h (100 * c + j) k)
def fvs (b : Nat) (h : Hs) (c k : Nat) : List Value := (List.range (nF c)).map (fun j => fv b h c j k)
def ce (G : Gl) (h : Hs) (k : Nat) : va_E := if (sh h k).1 < 13 then .inr ((sh h k).1, fvs G.1 h (sh h k).1 k) else if (sh h k).1 < 23 then .inl (G.2.2 ((sh h k).1 - 20), (sh h k).2, .inl (aI h k)) else .inl (G.2.2 ((sh h k).1 - 20), (sh h k).2, .inr (.inr (.inr (.inr (fun j => rf G.1 (aR h k j))))))
def wsO (G : Gl) (h : Hs) : va_W := (List.range (sz h)).map (fun k => (G.1 + k, ce G h k))
def HP (G : Gl) (h : Hs) (H : Heap) : Prop := va_P G.2.1 cls13 (wsO G h) H ∧ H.size = G.1 + sz h ∧ ∀ a, sz h ≤ a → (sh h a).1 = 99
def AG (G : Gl) : Nat → Prop := fun q => G.1 ≤ q
theorem ws_at {G : Gl} {h : Hs} {k : Nat} (hk : k < sz h) : (wsO G h)[k]? = some (G.1 + k, ce G h k) := by
  simp [wsO, hk]
theorem ws_D (G : Gl) (h : Hs) : va_D (AG G) (wsO G h) := by
  refine ⟨fun i j p q hp hq e => ?_, fun k q hq => ?_⟩
  · simp only [wsO, List.getElem?_map, Option.map_eq_some_iff] at hp hq
    obtain ⟨a, ha, rfl⟩ := hp
    obtain ⟨b, hb, rfl⟩ := hq
    have h1 := (List.getElem?_eq_some_iff.mp ha).2
    have h2 := (List.getElem?_eq_some_iff.mp hb).2
    simp at h1 h2
    simp at e
    omega
  · simp only [wsO, List.getElem?_map, Option.map_eq_some_iff] at hq
    obtain ⟨a, ha, rfl⟩ := hq
    exact Nat.le_add_right _ _
theorem HP.lt {G : Gl} {h : Hs} {H : Heap} (hP : HP G h H) {a c : Nat} (hs : (sh h a).1 = c) (hc : c ≠ 99) : a < sz h := by
  rcases Nat.lt_or_ge a (sz h) with q | q
  · exact q
  · exact absurd ((hP.2.2 a q).symm.trans hs) (fun e => hc e.symm)
theorem ce_obj {G : Gl} {h : Hs} {k c : Nat} (hs : (sh h k).1 = c) (hc : c < 13) : ce G h k = .inr (c, fvs G.1 h c k) := by
  simp [ce, hs, hc]
theorem ce_int {G : Gl} {h : Hs} {k t : Nat} (hs : (sh h k).1 = 20 + t) (ht : t < 3) : ce G h k = .inl (G.2.2 t, (sh h k).2, .inl (aI h k)) := by
  have h1 : ¬ 20 + t < 13 := by omega
  have h2 : 20 + t < 23 := by omega
  have h3 : 20 + t - 20 = t := by omega
  simp only [ce, hs, h1, h2, h3, if_false, if_true]
theorem ce_ref {G : Gl} {h : Hs} {k t : Nat} (hs : (sh h k).1 = 20 + t) (ht : 3 ≤ t) : ce G h k = .inl (G.2.2 t, (sh h k).2, .inr (.inr (.inr (.inr (fun j => rf G.1 (aR h k j)))))) := by
  have h1 : ¬ 20 + t < 13 := by omega
  have h2 : ¬ 20 + t < 23 := by omega
  have h3 : 20 + t - 20 = t := by omega
  simp only [ce, hs, h1, h2, h3, if_false]
theorem ws_set {G : Gl} {h h' : Hs} {a : Nat} (ha : a < sz h) (hz : sz h' = sz h) (ho : ∀ k, k < sz h → k ≠ a → ce G h' k = ce G h k) : (wsO G h).set a (G.1 + a, ce G h' a) = wsO G h' := by
  apply List.ext_getElem?
  intro i
  by_cases hi : i < sz h
  · rw [ws_at (h := h') (by rw [hz]; exact hi)]
    by_cases e : i = a
    · subst e
      rw [List.getElem?_set_self (by simp [wsO, hi])]
    · rw [List.getElem?_set_ne (fun q => e q.symm), ws_at hi, ho i hi e]
  · rw [List.getElem?_eq_none (by simp [wsO]; omega), List.getElem?_eq_none (by simp [wsO]; omega)]
theorem sh_uI (h : Hs) (f a : Nat) (v : Int32) (k : Nat) : sh (uI h f a v) k = sh h k := rfl
theorem sh_uR (h : Hs) (f a : Nat) (v : Option Nat) (k : Nat) : sh (uR h f a v) k = sh h k := rfl
theorem sh_uA (h : Hs) (a j : Nat) (v : Int32) (k : Nat) : sh (uA h a j v) k = sh h k := rfl
theorem sh_uQ (h : Hs) (a j : Nat) (v : Option Nat) (k : Nat) : sh (uQ h a j v) k = sh h k := rfl
theorem ce_congr {G : Gl} {h h' : Hs} {k : Nat} (hs : sh h' k = sh h k) (h1 : ∀ f, gI h' f k = gI h f k) (h2 : ∀ f, gR h' f k = gR h f k) (h3 : aI h' k = aI h k) (h4 : aR h' k = aR h k) : ce G h' k = ce G h k := by
  simp only [ce, hs, fvs, fv, h1, h2, h3, h4]
theorem ce_uI {G : Gl} {h : Hs} {f a : Nat} {v : Int32} {k : Nat} (hk : k ≠ a) : ce G (uI h f a v) k = ce G h k := ce_congr rfl (fun f' => by simp [uI, gI, hk]) (fun _ => rfl) rfl rfl
theorem ce_uR {G : Gl} {h : Hs} {f a : Nat} {v : Option Nat} {k : Nat} (hk : k ≠ a) : ce G (uR h f a v) k = ce G h k := ce_congr rfl (fun _ => rfl) (fun f' => by simp [uR, gR, hk]) rfl rfl
theorem ce_uA {G : Gl} {h : Hs} {a j : Nat} {v : Int32} {k : Nat} (hk : k ≠ a) : ce G (uA h a j v) k = ce G h k := ce_congr rfl (fun _ => rfl) (fun _ => rfl) (by funext q; simp [uA, aI, hk]) rfl
theorem ce_uQ {G : Gl} {h : Hs} {a j : Nat} {v : Option Nat} {k : Nat} (hk : k ≠ a) : ce G (uQ h a j v) k = ce G h k := ce_congr rfl (fun _ => rfl) (fun _ => rfl) rfl (by funext q; simp [uQ, aR, hk])
theorem fvs_uI {b : Nat} {h : Hs} {c j k : Nat} {v : Int32} (hj : j < nF c) (hr : refTy (tyOf c j) = false) : fvs b (uI h (100 * c + j) k v) c k = (fvs b h c k).set j (.int v) := by
  apply List.ext_getElem?
  intro i
  by_cases hi : i < nF c
  · by_cases e : i = j
    · subst e
      rw [List.getElem?_set_self (by simp [fvs, hi])]
      simp [fvs, hi, fv, hr, uI, gI]
    · rw [List.getElem?_set_ne (fun q => e q.symm)]
      have e2 : ¬ 100 * c + i = 100 * c + j := by omega
      simp [fvs, hi, fv, uI, gI, gR, e]
  · rw [List.getElem?_eq_none (by simp [fvs]; omega), List.getElem?_eq_none (by simp [fvs]; omega)]
theorem fvs_uR {b : Nat} {h : Hs} {c j k : Nat} {v : Option Nat} (hj : j < nF c) (hr : refTy (tyOf c j) = true) : fvs b (uR h (100 * c + j) k v) c k = (fvs b h c k).set j (va_rf (rf b v)) := by
  apply List.ext_getElem?
  intro i
  by_cases hi : i < nF c
  · by_cases e : i = j
    · subst e
      rw [List.getElem?_set_self (by simp [fvs, hi])]
      simp [fvs, hi, fv, hr, uR, gR]
    · rw [List.getElem?_set_ne (fun q => e q.symm)]
      simp [fvs, hi, fv, uR, gI, gR, e]
  · rw [List.getElem?_eq_none (by simp [fvs]; omega), List.getElem?_eq_none (by simp [fvs]; omega)]
theorem fvs_at {b : Nat} {h : Hs} {c j k : Nat} (hj : j < nF c) : (fvs b h c k)[j]? = some (fv b h c j k) := by
  simp [fvs, hj]
end
section
def gtb : List Cond := lw_tbl.filter goodWord
theorem gtb_mem {i : Nat} {w : Cond} (h : lw_tbl[i]? = some w) (hg : goodWord w = true) : w ∈ gtb := List.mem_filter.mpr ⟨List.mem_of_getElem? h, hg⟩
theorem gtb_good {w : Cond} (h : w ∈ gtb) : goodWord w = true := (List.mem_filter.mp h).2
def nws : List (String × Nat × MethodName × String) := [("StageMachine", 9, ⟨"StageMachine$Tape", "<init>", "()V"⟩, "StageMachine"), ("StageMachine", 18, ⟨"StageMachine$Candles", "<init>", "()V"⟩, "StageMachine"), ("StageMachine", 25, ⟨"StageMachine$Stock", "<init>", "()V"⟩, "StageMachine"), ("StageMachine", 32, ⟨"StageMachine$Stage", "<init>", "()V"⟩, "StageMachine"), ("StageMachine$Turning", 11, ⟨"StageMachine$Stop", "<init>", "()V"⟩, "StageMachine"), ("StageMachine$Stage", 50, ⟨"StageMachine", "isWithin", "(III)Z"⟩, "StageMachine"), ("StageMachine$Stage", 93, ⟨"StageMachine", "overlap", "(IIII)Z"⟩, "StageMachine"), ("StageMachine$Rope", 53, ⟨"StageMachine", "quotientUp", "(II)I"⟩, "StageMachine"), ("StageMachine$Rope", 57, ⟨"StageMachine", "quotient", "(II)I"⟩, "StageMachine"), ("StageMachine$Turning", 112, ⟨"StageMachine", "isWithin", "(III)Z"⟩, "StageMachine"), ("StageMachine$Thing", 60, ⟨"StageMachine", "overlap", "(IIII)Z"⟩, "StageMachine"), ("StageMachine$Thing", 53, ⟨"StageMachine", "isWithin", "(III)Z"⟩, "StageMachine"), ("StageMachine$Change", 25, ⟨"StageMachine", "isWithin", "(III)Z"⟩, "StageMachine"), ("StageMachine$Change", 29, ⟨"StageMachine", "isTurn", "(I)Z"⟩, "StageMachine"), ("StageMachine$Change", 152, ⟨"StageMachine", "quotient", "(II)I"⟩, "StageMachine"), ("StageMachine$Tape", 24, ⟨"StageMachine", "isWithin", "(III)Z"⟩, "StageMachine"), ("StageMachine$Candles", 18, ⟨"StageMachine", "isWithin", "(III)Z"⟩, "StageMachine"), ("StageMachine$Stock", 41, ⟨"StageMachine", "isWithin", "(III)Z"⟩, "StageMachine")]
theorem nws_ok : ∀ q ∈ nws, Cond.methodLinkNest q.1 q.2.1 q.2.2.1 q.2.2.2 ∈ lw_tbl := by
  have h : nws.map (fun q => Cond.methodLinkNest q.1 q.2.1 q.2.2.1 q.2.2.2) = [84, 121, 142, 173, 254, 346, 356, 553, 627, 666, 675, 755, 764, 765, 835, 844, 905, 949].filterMap (fun i => lw_tbl[i]?) := by decide +kernel
  intro q hq
  have h1 : Cond.methodLinkNest q.1 q.2.1 q.2.2.1 q.2.2.2 ∈ nws.map (fun q => Cond.methodLinkNest q.1 q.2.1 q.2.2.1 q.2.2.2) := List.mem_map.mpr ⟨q, hq, rfl⟩
  rw [h] at h1
  obtain ⟨i, -, hi⟩ := List.mem_filterMap.mp h1
  exact List.mem_of_getElem? hi
def NW (U : State) : Prop := (∀ q ∈ nws, va_Nw (.methodLinkNest q.1 q.2.1 q.2.2.1 q.2.2.2) U) ∧ va_AO RX9 U ∧ va_AO RX2 U ∧ va_AO RX4 U ∧ va_AO RX3 U
theorem NW.warm {s U : State} (h : NW s) (hW : s.WarmedH U.vm) : NW U := ⟨fun q hq => va_Nw.warmM hW (h.1 q hq), h.2.1.moved hW.alike, h.2.2.1.moved hW.alike, h.2.2.2.1.moved hW.alike, h.2.2.2.2.moved hW.alike⟩
/-! words: an int, or a reference -/
abbrev Wd : Type := Int32 ⊕ Option Nat
def vl (b : Nat) (w : Wd) : Value := match w with
  | .inl x => .int x
  | .inr o => va_rf (rf b o)
theorem vl_cat (b : Nat) (w : Wd) : (vl b w).category = 1 := by
  rcases w with x | _ | o <;> rfl
def LV (b : Nat) (ls : Array Slot) (nL : Nat) (lv : List (Option Wd)) : Prop := ls.size = nL ∧ lv_wf ls ∧ ∀ (i : Nat) (w : Wd), lv[i]? = some (some w) → ls[i]? = some (.val (vl b w))
theorem LV.store {b nL : Nat} {ls : Array Slot} {lv : List (Option Wd)} (h : LV b ls nL lv) {i : Nat} (hi : i < nL) (w : Wd) : ∃ ls', storeLocals ls i (vl b w) = some ls' ∧ LV b ls' nL (lv.set i (some w)) := by
  obtain ⟨ls', e, h'⟩ := lv_store1 (l := []) (v := vl b w) ⟨h.1, h.2.1, fun q hq => absurd hq List.not_mem_nil⟩ hi (vl_cat b w)
  refine ⟨ls', e, h'.1, h'.2.1, fun j w' hj => ?_⟩
  by_cases hji : j = i
  · subst hji
    rw [List.getElem?_set] at hj
    simp only [if_true] at hj
    split at hj
    · cases hj
      exact h'.2.2 (j, vl b w) List.mem_cons_self
    · cases hj
  · rw [List.getElem?_set_ne (fun q => hji q.symm)] at hj
    obtain ⟨ls2, e2, h2⟩ := lv_store1 (l := [(j, vl b w')]) (v := vl b w) ⟨h.1, h.2.1, fun q hq => by rw [List.mem_singleton.mp hq]; exact h.2.2 j w' hj⟩ hi (vl_cat b w)
    have e3 : ls2 = ls' := Option.some.inj (e2.symm.trans e)
    rw [e3] at h2
    refine h2.2.2 (j, vl b w') (List.mem_cons_of_mem _ (List.mem_filter.mpr ⟨List.mem_singleton.mpr rfl, ?_⟩))
    have h1 : (j == i) = false := by simpa using hji
    simp [h1, vl_cat]
/-! fewer known locals -/
def LW : List (Option Wd) → List (Option Wd) → Prop
  | [], _ => True
  | none :: a, b => LW a b.tail
  | some v :: a, b => b.head? = some (some v) ∧ LW a b.tail
theorem LW.at : ∀ {a b : List (Option Wd)}, LW a b → ∀ (i : Nat) (w : Wd), a[i]? = some (some w) → b[i]? = some (some w)
  | [], _, _, i, w, h => by simp at h
  | none :: a, b, hl, 0, w, h => by simp at h
  | none :: a, b, hl, i + 1, w, h => by
    have h1 := LW.at (a := a) (b := b.tail) hl i w (by simpa using h)
    simpa using h1
  | some v :: a, b, hl, 0, w, h => by
    simp at h
    subst h
    have := hl.1
    cases b <;> simp_all
  | some v :: a, b, hl, i + 1, w, h => by
    have h1 := LW.at (a := a) (b := b.tail) hl.2 i w (by simpa using h)
    simpa using h1
theorem LV.sub {b nL : Nat} {ls : Array Slot} {lv lv' : List (Option Wd)} (h : LV b ls nL lv) (hl : LW lv' lv) : LV b ls nL lv' := ⟨h.1, h.2.1, fun i w hi => h.2.2 i w (hl.at i w hi)⟩
/-! the operations, as partial functions of my heap -/
def oI (c j : Nat) (h : Hs) (o : Option Nat) : Option Int32 := match o with
  | none => none
  | some a => if (sh h a).1 = c then some (gI h (100 * c + j) a) else none
def oR (c j : Nat) (h : Hs) (o : Option Nat) : Option (Option Nat) := match o with
  | none => none
  | some a => if (sh h a).1 = c then some (gR h (100 * c + j) a) else none
def qI (c j : Nat) (h : Hs) (o : Option Nat) (v : Int32) : Option Hs := match o with
  | none => none
  | some a => if (sh h a).1 = c then some (uI h (100 * c + j) a v) else none
def qZ (c j : Nat) (h : Hs) (o : Option Nat) (v : Int32) : Option Hs := match o with
  | none => none
  | some a => if (sh h a).1 = c ∧ (v = 0 ∨ v = 1) then some (uI h (100 * c + j) a v) else none
def qR (c j : Nat) (h : Hs) (o v : Option Nat) : Option Hs := match o with
  | none => none
  | some a => if (sh h a).1 = c then some (uR h (100 * c + j) a v) else none
def ix (i : Int32) (n : Nat) : Prop := 0 ≤ i.toInt ∧ i.toInt < n
def ixb (i : Int32) (n : Nat) : Bool := decide (0 ≤ i.toInt) && decide (i.toInt < n)
theorem ixb_in {i : Int32} {n : Nat} (h : ixb i n = true) : vp_in i n := vp_in_iff.mpr (by simpa [ixb] using h)
def lA (t : Nat) (h : Hs) (o : Option Nat) (i : Int32) : Option Int32 := match o with
  | none => none
  | some a => if (sh h a).1 = t ∧ ixb i (sh h a).2 = true then some (aI h a i.toNatClampNeg) else none
def lQ (t : Nat) (h : Hs) (o : Option Nat) (i : Int32) : Option (Option Nat) := match o with
  | none => none
  | some a => if (sh h a).1 = t ∧ ixb i (sh h a).2 = true then some (aR h a i.toNatClampNeg) else none
def sA (h : Hs) (o : Option Nat) (i v : Int32) : Option Hs := match o with
  | none => none
  | some a => if (sh h a).1 = 20 ∧ ixb i (sh h a).2 = true then some (uA h a i.toNatClampNeg v) else none
def sZ (h : Hs) (o : Option Nat) (i v : Int32) : Option Hs := match o with
  | none => none
  | some a => if (sh h a).1 = 21 ∧ ixb i (sh h a).2 = true then some (uA h a i.toNatClampNeg (vp_nar .boolean v)) else none
def sB (h : Hs) (o : Option Nat) (i v : Int32) : Option Hs := match o with
  | none => none
  | some a => if (sh h a).1 = 22 ∧ ixb i (sh h a).2 = true then some (uA h a i.toNatClampNeg (vp_nar .byte v)) else none
def sQ (t c : Nat) (h : Hs) (o : Option Nat) (i : Int32) (v : Option Nat) : Option Hs := match o, v with
  | some a, some q => if (sh h a).1 = t ∧ ixb i (sh h a).2 = true ∧ (sh h q).1 = c then some (uQ h a i.toNatClampNeg (some q)) else none
  | _, _ => none
def oL (h : Hs) (o : Option Nat) : Option Int32 := match o with
  | none => none
  | some a => if (sh h a).1 = 20 then some (Int32.ofNat (sh h a).2) else none
def dv (x y : Int32) : Option Int32 := if y = 0 then none else some (x / y)
def rmd (x y : Int32) : Option Int32 := if y = 0 then none else some (x - x / y * y)
def rc (c : Nat) (h : Hs) (o : Option Nat) : Option Nat := match o with
  | none => none
  | some a => if (sh h a).1 = c then some a else none
def zc (v : Int32) : Option Int32 := if v = 0 ∨ v = 1 then some v else none
def cpA (h : Hs) (o : Option Nat) (sp : Int32) (o2 : Option Nat) (dp n : Int32) : Option Hs := match o, o2 with
  | some a, some q => if (sh h a).1 = 20 ∧ (sh h q).1 = 20 ∧ ¬ sp < 0 ∧ ¬ dp < 0 ∧ ¬ n < 0 ∧ sp.toNatClampNeg + n.toNatClampNeg ≤ (sh h a).2 ∧ dp.toNatClampNeg + n.toNatClampNeg ≤ (sh h q).2 then some (h.1, h.2.1, (fun a' j' => if a' = q then va_cpy (aI h a) (aI h q) sp.toNatClampNeg dp.toNatClampNeg n.toNatClampNeg j' else h.2.2.1 a' j'), h.2.2.2) else none
  | _, _ => none
/-! class facts -/
def FC (c : Nat) (C : String) (T : u_T) (N : Nat) (ty : Nat → FieldType) : Prop := cls13[c]? = some (C, T, N) ∧ (∀ w ∈ u_ws C T N, w ∈ gtb) ∧ (∀ k, k < N → parseFieldDescriptor (T k).2.2.1 = some (ty k)) ∧ (∀ a, a < N → ∀ b, b < N → a ≠ b → (T a).2.1 ≠ (T b).2.1) ∧ nF c = N ∧ c < 13 ∧ tyOf c = ty
/-- a field's link -/
def FL (own : String) (idx c j : Nat) : Prop := ∃ (C : String) (T : u_T) (N : Nat) (ty : Nat → FieldType), FC c C T N ty ∧ j < N ∧ Cond.fieldLink own idx (T j).1 (T j).2.1 (T j).2.2.1 ∈ gtb
/-- it may be written: not final -/
def FN (c j : Nat) : Prop := ∀ q, cls13[c]? = some q → (q.2.1 j).2.2.2 = false
/-- final, of this class -/
def FF (own : String) (c j : Nat) : Prop := ∀ q, cls13[c]? = some q → (q.2.1 j).2.2.2 = true ∧ (q.2.1 j).1 = own
def Cx (p : Program) (s : State) (m : MethodId) (args : Array Value) (meth : Method) (c : Code) (cc : ByteArray) (own : String) (nL : Nat) (G : Gl) : Prop :=
  p.tables.exec = Jvm.exec ∧ c.code = cc ∧ c.maxLocals = nL ∧ s.vm.findClass own = some m.cls ∧ (∀ w ∈ gtb, w.before args s = true) ∧ va_K G.2.1 cls13 (tys7 G.2.2) s ∧ NW s ∧ meth.locks = false ∧ G.1 ≤ s.heap.size
def V (p : Program) (l : Launch) (e : Env) (R : Room) (s : State) (m : MethodId) (args : Array Value) (below : List Frame) (meth : Method) (c : Code) (G : Gl) (nL : Nat) (Q : State → Prop) (h : Hs) (cells slots pc : Nat) (lv : List (Option Wd)) (st : List Wd) : Prop :=
  ∀ (H : Heap) (locs : List Loc) (ls : Array Slot), HP G h H → va_S (AG G) s.heap H locs → LV G.1 ls nL lv → W p l e R s m args below meth c H locs cells slots Q (F0 m pc ls (st.map (vl G.1)))
theorem bS {α β : Type} {x : Option α} {f : α → Option β} {r : β} (h : x.bind f = some r) : ∃ a, x = some a ∧ f a = some r := Option.bind_eq_some_iff.mp h
section Rows
variable {p : Program} {l : Launch} {e : Env} {R : Room} {s : State} {m : MethodId} {args : Array Value} {below : List Frame} {meth : Method} {c : Code} {cc : ByteArray} {own : String} {G : Gl} {nL : Nat} {Q : State → Prop} {h : Hs} {cells slots pc : Nat} {lv : List (Option Wd)} {st : List Wd}
theorem V.sub {lv' : List (Option Wd)} (k : V p l e R s m args below meth c G nL Q h cells slots pc lv' st) (hl : LW lv' lv) : V p l e R s m args below meth c G nL Q h cells slots pc lv st := fun H locs ls hH hS hL => k H locs ls hH hS (hL.sub hl)
theorem r_iconst (C : Cx p s m args meth c cc own nL G) {n : Int} {v : Int32} (d : decode cc pc = .ok (.iconst n, 1)) (hv : Int32.ofInt n = v) (k : V p l e R s m args below meth c G nL Q h cells slots (pc + 1) lv (.inl v :: st)) : V p l e R s m args below meth c G nL Q h cells slots pc lv st := fun H locs ls hH hS hL => lv_iconst C.1 C.2.1 d hv (k H locs ls hH hS hL)
theorem r_bipush (C : Cx p s m args meth c cc own nL G) {n : Int} {v : Int32} (d : decode cc pc = .ok (.bipush n, 2)) (hv : (Int8.ofInt n).toInt32 = v) (k : V p l e R s m args below meth c G nL Q h cells slots (pc + 2) lv (.inl v :: st)) : V p l e R s m args below meth c G nL Q h cells slots pc lv st := fun H locs ls hH hS hL => lv_bipush C.1 C.2.1 d hv (k H locs ls hH hS hL)
theorem r_sipush (C : Cx p s m args meth c cc own nL G) {n : Int} {v : Int32} (d : decode cc pc = .ok (.sipush n, 3)) (hv : (Int16.ofInt n).toInt32 = v) (k : V p l e R s m args below meth c G nL Q h cells slots (pc + 3) lv (.inl v :: st)) : V p l e R s m args below meth c G nL Q h cells slots pc lv st := fun H locs ls hH hS hL => lv_sipush C.1 C.2.1 d hv (k H locs ls hH hS hL)
theorem r_ldc (C : Cx p s m args meth c cc own nL G) {i : Nat} {v : Int32} (d : decode cc pc = .ok (.ldc i, 2)) (hv : Cond.constant own i v ∈ gtb) (k : V p l e R s m args below meth c G nL Q h cells slots (pc + 2) lv (.inl v :: st)) : V p l e R s m args below meth c G nL Q h cells slots pc lv st := fun H locs ls hH hS hL => lv_ldc C.1 C.2.1 C.2.2.2.1 (C.2.2.2.2.1 _ hv) d (k H locs ls hH hS hL)
theorem r_ldcw (C : Cx p s m args meth c cc own nL G) {i : Nat} {v : Int32} (d : decode cc pc = .ok (.ldc_w i, 3)) (hv : Cond.constant own i v ∈ gtb) (k : V p l e R s m args below meth c G nL Q h cells slots (pc + 3) lv (.inl v :: st)) : V p l e R s m args below meth c G nL Q h cells slots pc lv st := fun H locs ls hH hS hL => lv_ldcw C.1 C.2.1 C.2.2.2.1 (C.2.2.2.2.1 _ hv) d (k H locs ls hH hS hL)
theorem r_iload_n (C : Cx p s m args meth c cc own nL G) {i : Fin 4} {x : Int32} (d : decode cc pc = .ok (.iload_n i, 1)) (hl : lv[(i : Nat)]? = some (some (.inl x))) (k : V p l e R s m args below meth c G nL Q h cells slots (pc + 1) lv (.inl x :: st)) : V p l e R s m args below meth c G nL Q h cells slots pc lv st := fun H locs ls hH hS hL => lv_iload_n C.1 C.2.1 d rfl (hL.2.2 _ _ hl) (k H locs ls hH hS hL)
theorem r_iload (C : Cx p s m args meth c cc own nL G) {i : Nat} {x : Int32} (d : decode cc pc = .ok (.iload i, 2)) (hl : lv[i]? = some (some (.inl x))) (k : V p l e R s m args below meth c G nL Q h cells slots (pc + 2) lv (.inl x :: st)) : V p l e R s m args below meth c G nL Q h cells slots pc lv st := fun H locs ls hH hS hL => lv_iload C.1 C.2.1 d (hL.2.2 _ _ hl) (k H locs ls hH hS hL)
theorem r_aload_n (C : Cx p s m args meth c cc own nL G) {i : Fin 4} {o : Option Nat} (d : decode cc pc = .ok (.aload_n i, 1)) (hl : lv[(i : Nat)]? = some (some (.inr o))) (k : V p l e R s m args below meth c G nL Q h cells slots (pc + 1) lv (.inr o :: st)) : V p l e R s m args below meth c G nL Q h cells slots pc lv st := by
  intro H locs ls hH hS hL
  have h1 := hL.2.2 _ _ hl
  have h2 := k H locs ls hH hS hL
  cases o with
  | none => exact lv_aload_nN C.1 C.2.1 d rfl h1 h2
  | some a => exact lv_aload_n C.1 C.2.1 d rfl h1 h2
theorem r_aload (C : Cx p s m args meth c cc own nL G) {i : Nat} {o : Option Nat} (d : decode cc pc = .ok (.aload i, 2)) (hl : lv[i]? = some (some (.inr o))) (k : V p l e R s m args below meth c G nL Q h cells slots (pc + 2) lv (.inr o :: st)) : V p l e R s m args below meth c G nL Q h cells slots pc lv st := by
  intro H locs ls hH hS hL
  have h1 := hL.2.2 _ _ hl
  have h2 := k H locs ls hH hS hL
  cases o with
  | none => exact lv_aloadN C.1 C.2.1 d h1 h2
  | some a => exact lv_aload C.1 C.2.1 d h1 h2
section Ws
variable {H : Heap} {locs : List Loc} {ls : Array Slot} {rest : List Value}
theorem w_istore_n (hexec : p.tables.exec = Jvm.exec) (hb : c.code = cc) {i : Fin 4} {x : Int32} (hdg : decode cc pc = .ok (.istore_n i, 1)) {ls' : Array Slot} (e' : storeLocals ls (i : Nat) (.int x) = some ls') (kk : W p l e R s m args below meth c H locs cells slots Q (F0 m (pc + 1) ls' rest)) : W p l e R s m args below meth c H locs cells slots Q (F0 m pc ls (.int x :: rest)) := by
  intro T hT X
  obtain ⟨t, a, b⟩ := kk T hT X
  refine ⟨t, ?_, b⟩
  jvm_step X.here [X.here.top, ↓top_set X.here.top, hexec, hb, hdg, e']
  exact a
theorem w_istore (hexec : p.tables.exec = Jvm.exec) (hb : c.code = cc) {i : Nat} {x : Int32} (hdg : decode cc pc = .ok (.istore i, 2)) {ls' : Array Slot} (e' : storeLocals ls i (.int x) = some ls') (kk : W p l e R s m args below meth c H locs cells slots Q (F0 m (pc + 2) ls' rest)) : W p l e R s m args below meth c H locs cells slots Q (F0 m pc ls (.int x :: rest)) := by
  intro T hT X
  obtain ⟨t, a, b⟩ := kk T hT X
  refine ⟨t, ?_, b⟩
  jvm_step X.here [X.here.top, ↓top_set X.here.top, hexec, hb, hdg, e']
  exact a
theorem w_astore_n (hexec : p.tables.exec = Jvm.exec) (hb : c.code = cc) {i : Fin 4} {o : Option Nat} (hdg : decode cc pc = .ok (.astore_n i, 1)) {ls' : Array Slot} (e' : storeLocals ls (i : Nat) (va_rf o) = some ls') (kk : W p l e R s m args below meth c H locs cells slots Q (F0 m (pc + 1) ls' rest)) : W p l e R s m args below meth c H locs cells slots Q (F0 m pc ls (va_rf o :: rest)) := by
  intro T hT X
  obtain ⟨t, a, b⟩ := kk T hT X
  refine ⟨t, ?_, b⟩
  cases o <;> (simp only [va_rf] at e' ⊢; jvm_step X.here [X.here.top, ↓top_set X.here.top, hexec, hb, hdg, e', Value.isRef]; exact a)
theorem w_astore (hexec : p.tables.exec = Jvm.exec) (hb : c.code = cc) {i : Nat} {o : Option Nat} (hdg : decode cc pc = .ok (.astore i, 2)) {ls' : Array Slot} (e' : storeLocals ls i (va_rf o) = some ls') (kk : W p l e R s m args below meth c H locs cells slots Q (F0 m (pc + 2) ls' rest)) : W p l e R s m args below meth c H locs cells slots Q (F0 m pc ls (va_rf o :: rest)) := by
  intro T hT X
  obtain ⟨t, a, b⟩ := kk T hT X
  refine ⟨t, ?_, b⟩
  cases o <;> (simp only [va_rf] at e' ⊢; jvm_step X.here [X.here.top, ↓top_set X.here.top, hexec, hb, hdg, e', Value.isRef]; exact a)
theorem w_iinc (hexec : p.tables.exec = Jvm.exec) (hb : c.code = cc) {i : Nat} {n : Int} {x : Int32} (hdg : decode cc pc = .ok (.iinc i n, 3)) (hg : ls[i]? = some (.val (.int x))) {ls' : Array Slot} (e' : storeLocals ls i (.int (x + Int32.ofInt n)) = some ls') (kk : W p l e R s m args below meth c H locs cells slots Q (F0 m (pc + 3) ls' rest)) : W p l e R s m args below meth c H locs cells slots Q (F0 m pc ls rest) := by
  intro T hT X
  obtain ⟨t, a, b⟩ := kk T hT X
  refine ⟨t, ?_, b⟩
  jvm_step X.here [X.here.top, ↓top_set X.here.top, hexec, hb, hdg, hg, e']
  exact a
end Ws
theorem r_istore_n (C : Cx p s m args meth c cc own nL G) {i : Fin 4} {x : Int32} (d : decode cc pc = .ok (.istore_n i, 1)) (hi : (i : Nat) < nL) (k : V p l e R s m args below meth c G nL Q h cells slots (pc + 1) (lv.set i (some (.inl x))) st) : V p l e R s m args below meth c G nL Q h cells slots pc lv (.inl x :: st) := by
  intro H locs ls hH hS hL
  obtain ⟨ls', e', h'⟩ := hL.store hi (.inl x)
  exact w_istore_n C.1 C.2.1 d e' (k H locs ls' hH hS h')
theorem r_istore (C : Cx p s m args meth c cc own nL G) {i : Nat} {x : Int32} (d : decode cc pc = .ok (.istore i, 2)) (hi : i < nL) (k : V p l e R s m args below meth c G nL Q h cells slots (pc + 2) (lv.set i (some (.inl x))) st) : V p l e R s m args below meth c G nL Q h cells slots pc lv (.inl x :: st) := by
  intro H locs ls hH hS hL
  obtain ⟨ls', e', h'⟩ := hL.store hi (.inl x)
  exact w_istore C.1 C.2.1 d e' (k H locs ls' hH hS h')
theorem r_astore_n (C : Cx p s m args meth c cc own nL G) {i : Fin 4} {o : Option Nat} (d : decode cc pc = .ok (.astore_n i, 1)) (hi : (i : Nat) < nL) (k : V p l e R s m args below meth c G nL Q h cells slots (pc + 1) (lv.set i (some (.inr o))) st) : V p l e R s m args below meth c G nL Q h cells slots pc lv (.inr o :: st) := by
  intro H locs ls hH hS hL
  obtain ⟨ls', e', h'⟩ := hL.store hi (.inr o)
  exact w_astore_n C.1 C.2.1 d e' (k H locs ls' hH hS h')
theorem r_astore (C : Cx p s m args meth c cc own nL G) {i : Nat} {o : Option Nat} (d : decode cc pc = .ok (.astore i, 2)) (hi : i < nL) (k : V p l e R s m args below meth c G nL Q h cells slots (pc + 2) (lv.set i (some (.inr o))) st) : V p l e R s m args below meth c G nL Q h cells slots pc lv (.inr o :: st) := by
  intro H locs ls hH hS hL
  obtain ⟨ls', e', h'⟩ := hL.store hi (.inr o)
  exact w_astore C.1 C.2.1 d e' (k H locs ls' hH hS h')
theorem r_iinc (C : Cx p s m args meth c cc own nL G) {i : Nat} {n : Int} {x v : Int32} (d : decode cc pc = .ok (.iinc i n, 3)) (hl : lv[i]? = some (some (.inl x))) (hv : Int32.ofInt n = v) (hi : i < nL) (k : V p l e R s m args below meth c G nL Q h cells slots (pc + 3) (lv.set i (some (.inl (x + v)))) st) : V p l e R s m args below meth c G nL Q h cells slots pc lv st := by
  subst hv
  intro H locs ls hH hS hL
  obtain ⟨ls', e', h'⟩ := hL.store hi (.inl (x + Int32.ofInt n))
  exact w_iinc C.1 C.2.1 d (hL.2.2 _ _ hl) e' (k H locs ls' hH hS h')
theorem r_null (C : Cx p s m args meth c cc own nL G) (d : decode cc pc = .ok (.aconst_null, 1)) (k : V p l e R s m args below meth c G nL Q h cells slots (pc + 1) lv (.inr none :: st)) : V p l e R s m args below meth c G nL Q h cells slots pc lv st := fun H locs ls hH hS hL => lv_null C.1 C.2.1 d (k H locs ls hH hS hL)
theorem r_iadd (C : Cx p s m args meth c cc own nL G) {x y : Int32} (d : decode cc pc = .ok (.iadd, 1)) (k : V p l e R s m args below meth c G nL Q h cells slots (pc + 1) lv (.inl (x + y) :: st)) : V p l e R s m args below meth c G nL Q h cells slots pc lv (.inl y :: .inl x :: st) := fun H locs ls hH hS hL => lv_iadd C.1 C.2.1 d (k H locs ls hH hS hL)
theorem r_isub (C : Cx p s m args meth c cc own nL G) {x y : Int32} (d : decode cc pc = .ok (.isub, 1)) (k : V p l e R s m args below meth c G nL Q h cells slots (pc + 1) lv (.inl (x - y) :: st)) : V p l e R s m args below meth c G nL Q h cells slots pc lv (.inl y :: .inl x :: st) := fun H locs ls hH hS hL => lv_isub C.1 C.2.1 d (k H locs ls hH hS hL)
theorem r_imul (C : Cx p s m args meth c cc own nL G) {x y : Int32} (d : decode cc pc = .ok (.imul, 1)) (k : V p l e R s m args below meth c G nL Q h cells slots (pc + 1) lv (.inl (x * y) :: st)) : V p l e R s m args below meth c G nL Q h cells slots pc lv (.inl y :: .inl x :: st) := fun H locs ls hH hS hL => lv_imul C.1 C.2.1 d (k H locs ls hH hS hL)
theorem r_iand (C : Cx p s m args meth c cc own nL G) {x y : Int32} (d : decode cc pc = .ok (.iand, 1)) (k : V p l e R s m args below meth c G nL Q h cells slots (pc + 1) lv (.inl (x &&& y) :: st)) : V p l e R s m args below meth c G nL Q h cells slots pc lv (.inl y :: .inl x :: st) := fun H locs ls hH hS hL => lv_iand C.1 C.2.1 d (k H locs ls hH hS hL)
theorem r_ior (C : Cx p s m args meth c cc own nL G) {x y : Int32} (d : decode cc pc = .ok (.ior, 1)) (k : V p l e R s m args below meth c G nL Q h cells slots (pc + 1) lv (.inl (x ||| y) :: st)) : V p l e R s m args below meth c G nL Q h cells slots pc lv (.inl y :: .inl x :: st) := fun H locs ls hH hS hL => lv_ior C.1 C.2.1 d (k H locs ls hH hS hL)
theorem r_ishl (C : Cx p s m args meth c cc own nL G) {x y : Int32} (d : decode cc pc = .ok (.ishl, 1)) (k : V p l e R s m args below meth c G nL Q h cells slots (pc + 1) lv (.inl (x <<< (y &&& 31)) :: st)) : V p l e R s m args below meth c G nL Q h cells slots pc lv (.inl y :: .inl x :: st) := fun H locs ls hH hS hL => lv_ishl C.1 C.2.1 d (k H locs ls hH hS hL)
theorem r_ishr (C : Cx p s m args meth c cc own nL G) {x y : Int32} (d : decode cc pc = .ok (.ishr, 1)) (k : V p l e R s m args below meth c G nL Q h cells slots (pc + 1) lv (.inl (x >>> (y &&& 31)) :: st)) : V p l e R s m args below meth c G nL Q h cells slots pc lv (.inl y :: .inl x :: st) := fun H locs ls hH hS hL => lv_ishr C.1 C.2.1 d (k H locs ls hH hS hL)
theorem r_iushr (C : Cx p s m args meth c cc own nL G) {x y : Int32} (d : decode cc pc = .ok (.iushr, 1)) (k : V p l e R s m args below meth c G nL Q h cells slots (pc + 1) lv (.inl ((x.toUInt32 >>> (y.toUInt32 &&& Int32.toUInt32 31)).toInt32) :: st)) : V p l e R s m args below meth c G nL Q h cells slots pc lv (.inl y :: .inl x :: st) := fun H locs ls hH hS hL => lv_iushr C.1 C.2.1 d rfl (k H locs ls hH hS hL)
theorem r_ineg (C : Cx p s m args meth c cc own nL G) {x : Int32} (d : decode cc pc = .ok (.ineg, 1)) (k : V p l e R s m args below meth c G nL Q h cells slots (pc + 1) lv (.inl (-x) :: st)) : V p l e R s m args below meth c G nL Q h cells slots pc lv (.inl x :: st) := fun H locs ls hH hS hL => lv_ineg C.1 C.2.1 d (k H locs ls hH hS hL)
theorem r_i2b (C : Cx p s m args meth c cc own nL G) {x : Int32} (d : decode cc pc = .ok (.i2b, 1)) (k : V p l e R s m args below meth c G nL Q h cells slots (pc + 1) lv (.inl (x.toInt8.toInt32) :: st)) : V p l e R s m args below meth c G nL Q h cells slots pc lv (.inl x :: st) := fun H locs ls hH hS hL => lv_i2b C.1 C.2.1 d rfl (k H locs ls hH hS hL)
theorem r_idiv (C : Cx p s m args meth c cc own nL G) {x y v : Int32} (d : decode cc pc = .ok (.idiv, 1)) (eq : dv x y = some v) (k : V p l e R s m args below meth c G nL Q h cells slots (pc + 1) lv (.inl v :: st)) : V p l e R s m args below meth c G nL Q h cells slots pc lv (.inl y :: .inl x :: st) := by
  unfold dv at eq
  split at eq
  · cases eq
  · rename_i hne
    cases eq
    exact fun H locs ls hH hS hL => lv_idiv C.1 C.2.1 d hne (k H locs ls hH hS hL)
theorem r_idivK (C : Cx p s m args meth c cc own nL G) {x y : Int32} (d : decode cc pc = .ok (.idiv, 1)) (hne : ¬ y = 0) (k : V p l e R s m args below meth c G nL Q h cells slots (pc + 1) lv (.inl (x / y) :: st)) : V p l e R s m args below meth c G nL Q h cells slots pc lv (.inl y :: .inl x :: st) := fun H locs ls hH hS hL => lv_idiv C.1 C.2.1 d hne (k H locs ls hH hS hL)
theorem r_irem (C : Cx p s m args meth c cc own nL G) {x y v : Int32} (d : decode cc pc = .ok (.irem, 1)) (eq : rmd x y = some v) (k : V p l e R s m args below meth c G nL Q h cells slots (pc + 1) lv (.inl v :: st)) : V p l e R s m args below meth c G nL Q h cells slots pc lv (.inl y :: .inl x :: st) := by
  unfold rmd at eq
  split at eq
  · cases eq
  · rename_i hne
    cases eq
    exact fun H locs ls hH hS hL => lv_irem C.1 C.2.1 d hne (k H locs ls hH hS hL)
theorem r_iremK (C : Cx p s m args meth c cc own nL G) {x y : Int32} (d : decode cc pc = .ok (.irem, 1)) (hne : ¬ y = 0) (k : V p l e R s m args below meth c G nL Q h cells slots (pc + 1) lv (.inl (x - x / y * y) :: st)) : V p l e R s m args below meth c G nL Q h cells slots pc lv (.inl y :: .inl x :: st) := fun H locs ls hH hS hL => lv_irem C.1 C.2.1 d hne (k H locs ls hH hS hL)
theorem r_dup (C : Cx p s m args meth c cc own nL G) {w : Wd} (d : decode cc pc = .ok (.dup, 1)) (k : V p l e R s m args below meth c G nL Q h cells slots (pc + 1) lv (w :: w :: st)) : V p l e R s m args below meth c G nL Q h cells slots pc lv (w :: st) := fun H locs ls hH hS hL => lv_dup C.1 C.2.1 d (vl_cat _ _) (k H locs ls hH hS hL)
theorem r_pop (C : Cx p s m args meth c cc own nL G) {w : Wd} (d : decode cc pc = .ok (.pop, 1)) (k : V p l e R s m args below meth c G nL Q h cells slots (pc + 1) lv st) : V p l e R s m args below meth c G nL Q h cells slots pc lv (w :: st) := fun H locs ls hH hS hL => lv_pop C.1 C.2.1 d (vl_cat _ _) (k H locs ls hH hS hL)
theorem r_dup_x1 (C : Cx p s m args meth c cc own nL G) {w z : Wd} (d : decode cc pc = .ok (.dup_x1, 1)) (k : V p l e R s m args below meth c G nL Q h cells slots (pc + 1) lv (w :: z :: w :: st)) : V p l e R s m args below meth c G nL Q h cells slots pc lv (w :: z :: st) := fun H locs ls hH hS hL => lv_dup_x1 C.1 C.2.1 d (vl_cat _ _) (vl_cat _ _) (k H locs ls hH hS hL)
theorem r_dup2 (C : Cx p s m args meth c cc own nL G) {w z : Wd} (d : decode cc pc = .ok (.dup2, 1)) (k : V p l e R s m args below meth c G nL Q h cells slots (pc + 1) lv (w :: z :: w :: z :: st)) : V p l e R s m args below meth c G nL Q h cells slots pc lv (w :: z :: st) := fun H locs ls hH hS hL => lv_dup2_11 C.1 C.2.1 d (vl_cat _ _) (vl_cat _ _) (k H locs ls hH hS hL)
theorem r_if_eq (C : Cx p s m args meth c cc own nL G) {x : Int32} {off : Int} {tgt : Nat} (d : decode cc pc = .ok (.ifCond .eq off, 3)) (ht : (pc : Int) + off = (tgt : Int)) (kt : x = 0 → V p l e R s m args below meth c G nL Q h cells slots tgt lv st) (kf : ¬ x = 0 → V p l e R s m args below meth c G nL Q h cells slots (pc + 3) lv st) : V p l e R s m args below meth c G nL Q h cells slots pc lv (.inl x :: st) := fun H locs ls hH hS hL => lv_if_eq C.1 C.2.1 d ht (fun q => kt q H locs ls hH hS hL) (fun q => kf q H locs ls hH hS hL)
theorem r_icmp_eq (C : Cx p s m args meth c cc own nL G) {x y : Int32} {off : Int} {tgt : Nat} (d : decode cc pc = .ok (.if_icmp .eq off, 3)) (ht : (pc : Int) + off = (tgt : Int)) (kt : x = y → V p l e R s m args below meth c G nL Q h cells slots tgt lv st) (kf : ¬ x = y → V p l e R s m args below meth c G nL Q h cells slots (pc + 3) lv st) : V p l e R s m args below meth c G nL Q h cells slots pc lv (.inl y :: .inl x :: st) := fun H locs ls hH hS hL => lv_icmp_eq C.1 C.2.1 d ht (fun q => kt q H locs ls hH hS hL) (fun q => kf q H locs ls hH hS hL)
theorem r_if_ne (C : Cx p s m args meth c cc own nL G) {x : Int32} {off : Int} {tgt : Nat} (d : decode cc pc = .ok (.ifCond .ne off, 3)) (ht : (pc : Int) + off = (tgt : Int)) (kt : ¬ x = 0 → V p l e R s m args below meth c G nL Q h cells slots tgt lv st) (kf : x = 0 → V p l e R s m args below meth c G nL Q h cells slots (pc + 3) lv st) : V p l e R s m args below meth c G nL Q h cells slots pc lv (.inl x :: st) := fun H locs ls hH hS hL => lv_if_ne C.1 C.2.1 d ht (fun q => kt q H locs ls hH hS hL) (fun q => kf q H locs ls hH hS hL)
theorem r_icmp_ne (C : Cx p s m args meth c cc own nL G) {x y : Int32} {off : Int} {tgt : Nat} (d : decode cc pc = .ok (.if_icmp .ne off, 3)) (ht : (pc : Int) + off = (tgt : Int)) (kt : ¬ x = y → V p l e R s m args below meth c G nL Q h cells slots tgt lv st) (kf : x = y → V p l e R s m args below meth c G nL Q h cells slots (pc + 3) lv st) : V p l e R s m args below meth c G nL Q h cells slots pc lv (.inl y :: .inl x :: st) := fun H locs ls hH hS hL => lv_icmp_ne C.1 C.2.1 d ht (fun q => kt q H locs ls hH hS hL) (fun q => kf q H locs ls hH hS hL)
theorem r_if_lt (C : Cx p s m args meth c cc own nL G) {x : Int32} {off : Int} {tgt : Nat} (d : decode cc pc = .ok (.ifCond .lt off, 3)) (ht : (pc : Int) + off = (tgt : Int)) (kt : x < 0 → V p l e R s m args below meth c G nL Q h cells slots tgt lv st) (kf : ¬ x < 0 → V p l e R s m args below meth c G nL Q h cells slots (pc + 3) lv st) : V p l e R s m args below meth c G nL Q h cells slots pc lv (.inl x :: st) := fun H locs ls hH hS hL => lv_if_lt C.1 C.2.1 d ht (fun q => kt q H locs ls hH hS hL) (fun q => kf q H locs ls hH hS hL)
theorem r_icmp_lt (C : Cx p s m args meth c cc own nL G) {x y : Int32} {off : Int} {tgt : Nat} (d : decode cc pc = .ok (.if_icmp .lt off, 3)) (ht : (pc : Int) + off = (tgt : Int)) (kt : x < y → V p l e R s m args below meth c G nL Q h cells slots tgt lv st) (kf : ¬ x < y → V p l e R s m args below meth c G nL Q h cells slots (pc + 3) lv st) : V p l e R s m args below meth c G nL Q h cells slots pc lv (.inl y :: .inl x :: st) := fun H locs ls hH hS hL => lv_icmp_lt C.1 C.2.1 d ht (fun q => kt q H locs ls hH hS hL) (fun q => kf q H locs ls hH hS hL)
theorem r_if_ge (C : Cx p s m args meth c cc own nL G) {x : Int32} {off : Int} {tgt : Nat} (d : decode cc pc = .ok (.ifCond .ge off, 3)) (ht : (pc : Int) + off = (tgt : Int)) (kt : 0 ≤ x → V p l e R s m args below meth c G nL Q h cells slots tgt lv st) (kf : ¬ 0 ≤ x → V p l e R s m args below meth c G nL Q h cells slots (pc + 3) lv st) : V p l e R s m args below meth c G nL Q h cells slots pc lv (.inl x :: st) := fun H locs ls hH hS hL => lv_if_ge C.1 C.2.1 d ht (fun q => kt q H locs ls hH hS hL) (fun q => kf q H locs ls hH hS hL)
theorem r_icmp_ge (C : Cx p s m args meth c cc own nL G) {x y : Int32} {off : Int} {tgt : Nat} (d : decode cc pc = .ok (.if_icmp .ge off, 3)) (ht : (pc : Int) + off = (tgt : Int)) (kt : y ≤ x → V p l e R s m args below meth c G nL Q h cells slots tgt lv st) (kf : ¬ y ≤ x → V p l e R s m args below meth c G nL Q h cells slots (pc + 3) lv st) : V p l e R s m args below meth c G nL Q h cells slots pc lv (.inl y :: .inl x :: st) := fun H locs ls hH hS hL => lv_icmp_ge C.1 C.2.1 d ht (fun q => kt q H locs ls hH hS hL) (fun q => kf q H locs ls hH hS hL)
theorem r_if_gt (C : Cx p s m args meth c cc own nL G) {x : Int32} {off : Int} {tgt : Nat} (d : decode cc pc = .ok (.ifCond .gt off, 3)) (ht : (pc : Int) + off = (tgt : Int)) (kt : 0 < x → V p l e R s m args below meth c G nL Q h cells slots tgt lv st) (kf : ¬ 0 < x → V p l e R s m args below meth c G nL Q h cells slots (pc + 3) lv st) : V p l e R s m args below meth c G nL Q h cells slots pc lv (.inl x :: st) := fun H locs ls hH hS hL => lv_if_gt C.1 C.2.1 d ht (fun q => kt q H locs ls hH hS hL) (fun q => kf q H locs ls hH hS hL)
theorem r_icmp_gt (C : Cx p s m args meth c cc own nL G) {x y : Int32} {off : Int} {tgt : Nat} (d : decode cc pc = .ok (.if_icmp .gt off, 3)) (ht : (pc : Int) + off = (tgt : Int)) (kt : y < x → V p l e R s m args below meth c G nL Q h cells slots tgt lv st) (kf : ¬ y < x → V p l e R s m args below meth c G nL Q h cells slots (pc + 3) lv st) : V p l e R s m args below meth c G nL Q h cells slots pc lv (.inl y :: .inl x :: st) := fun H locs ls hH hS hL => lv_icmp_gt C.1 C.2.1 d ht (fun q => kt q H locs ls hH hS hL) (fun q => kf q H locs ls hH hS hL)
theorem r_if_le (C : Cx p s m args meth c cc own nL G) {x : Int32} {off : Int} {tgt : Nat} (d : decode cc pc = .ok (.ifCond .le off, 3)) (ht : (pc : Int) + off = (tgt : Int)) (kt : x ≤ 0 → V p l e R s m args below meth c G nL Q h cells slots tgt lv st) (kf : ¬ x ≤ 0 → V p l e R s m args below meth c G nL Q h cells slots (pc + 3) lv st) : V p l e R s m args below meth c G nL Q h cells slots pc lv (.inl x :: st) := fun H locs ls hH hS hL => lv_if_le C.1 C.2.1 d ht (fun q => kt q H locs ls hH hS hL) (fun q => kf q H locs ls hH hS hL)
theorem r_icmp_le (C : Cx p s m args meth c cc own nL G) {x y : Int32} {off : Int} {tgt : Nat} (d : decode cc pc = .ok (.if_icmp .le off, 3)) (ht : (pc : Int) + off = (tgt : Int)) (kt : x ≤ y → V p l e R s m args below meth c G nL Q h cells slots tgt lv st) (kf : ¬ x ≤ y → V p l e R s m args below meth c G nL Q h cells slots (pc + 3) lv st) : V p l e R s m args below meth c G nL Q h cells slots pc lv (.inl y :: .inl x :: st) := fun H locs ls hH hS hL => lv_icmp_le C.1 C.2.1 d ht (fun q => kt q H locs ls hH hS hL) (fun q => kf q H locs ls hH hS hL)
theorem r_goto (C : Cx p s m args meth c cc own nL G) {off : Int} {tgt : Nat} (d : decode cc pc = .ok (.goto off, 3)) (ht : (pc : Int) + off = (tgt : Int)) (k : V p l e R s m args below meth c G nL Q h cells slots tgt lv st) : V p l e R s m args below meth c G nL Q h cells slots pc lv st := fun H locs ls hH hS hL => lv_goto C.1 C.2.1 d ht (k H locs ls hH hS hL)
theorem r_ifnull (C : Cx p s m args meth c cc own nL G) {o : Option Nat} {off : Int} {tgt : Nat} (d : decode cc pc = .ok (.ifnull off, 3)) (ht : (pc : Int) + off = (tgt : Int)) (kt : o = none → V p l e R s m args below meth c G nL Q h cells slots tgt lv st) (kf : ¬ o = none → V p l e R s m args below meth c G nL Q h cells slots (pc + 3) lv st) : V p l e R s m args below meth c G nL Q h cells slots pc lv (.inr o :: st) := by
  intro H locs ls hH hS hL
  cases o with
  | none => exact lv_ifnullN C.1 C.2.1 d ht (kt rfl H locs ls hH hS hL)
  | some a => exact lv_ifnull C.1 C.2.1 d (kf (fun q => by cases q) H locs ls hH hS hL)
theorem r_ifnonnull (C : Cx p s m args meth c cc own nL G) {o : Option Nat} {off : Int} {tgt : Nat} (d : decode cc pc = .ok (.ifnonnull off, 3)) (ht : (pc : Int) + off = (tgt : Int)) (kt : ¬ o = none → V p l e R s m args below meth c G nL Q h cells slots tgt lv st) (kf : o = none → V p l e R s m args below meth c G nL Q h cells slots (pc + 3) lv st) : V p l e R s m args below meth c G nL Q h cells slots pc lv (.inr o :: st) := by
  intro H locs ls hH hS hL
  cases o with
  | none => exact lv_ifnonnullN C.1 C.2.1 d (kf rfl H locs ls hH hS hL)
  | some a => exact lv_ifnonnull C.1 C.2.1 d ht (kt (fun q => by cases q) H locs ls hH hS hL)
theorem rf_inj {b : Nat} {o o2 : Option Nat} : rf b o = rf b o2 ↔ o = o2 := by
  cases o <;> cases o2 <;> simp [rf]
theorem r_acmp_eq (C : Cx p s m args meth c cc own nL G) {x y : Option Nat} {off : Int} {tgt : Nat} (d : decode cc pc = .ok (.if_acmp .eq off, 3)) (ht : (pc : Int) + off = (tgt : Int)) (kt : x = y → V p l e R s m args below meth c G nL Q h cells slots tgt lv st) (kf : ¬ x = y → V p l e R s m args below meth c G nL Q h cells slots (pc + 3) lv st) : V p l e R s m args below meth c G nL Q h cells slots pc lv (.inr y :: .inr x :: st) := fun H locs ls hH hS hL => lv_acmp_eq C.1 C.2.1 d ht (fun q => kt (rf_inj.mp q) H locs ls hH hS hL) (fun q => kf (fun z => q (rf_inj.mpr z)) H locs ls hH hS hL)
theorem r_acmp_ne (C : Cx p s m args meth c cc own nL G) {x y : Option Nat} {off : Int} {tgt : Nat} (d : decode cc pc = .ok (.if_acmp .ne off, 3)) (ht : (pc : Int) + off = (tgt : Int)) (kt : ¬ x = y → V p l e R s m args below meth c G nL Q h cells slots tgt lv st) (kf : x = y → V p l e R s m args below meth c G nL Q h cells slots (pc + 3) lv st) : V p l e R s m args below meth c G nL Q h cells slots pc lv (.inr y :: .inr x :: st) := fun H locs ls hH hS hL => lv_acmp_ne C.1 C.2.1 d ht (fun q => kt (fun z => q (rf_inj.mpr z)) H locs ls hH hS hL) (fun q => kf (rf_inj.mp q) H locs ls hH hS hL)
theorem r_tabOut (C : Cx p s m args meth c cc own nL G) {dflt lo hi : Int} {offs : Array Int} {len : Nat} {x : Int32} {tgt : Nat} (d : decode cc pc = .ok (.tableswitch dflt lo hi offs, len)) (hx : x.toInt < lo ∨ hi < x.toInt) (ht : (pc : Int) + dflt = (tgt : Int)) (k : V p l e R s m args below meth c G nL Q h cells slots tgt lv st) : V p l e R s m args below meth c G nL Q h cells slots pc lv (.inl x :: st) := fun H locs ls hH hS hL => lv_tableOut C.1 C.2.1 d hx ht (k H locs ls hH hS hL)
theorem r_tabIn (C : Cx p s m args meth c cc own nL G) {dflt lo hi : Int} {offs : Array Int} {len : Nat} {x : Int32} {off : Int} {tgt : Nat} (d : decode cc pc = .ok (.tableswitch dflt lo hi offs, len)) (h1 : ¬ x.toInt < lo) (h2 : ¬ hi < x.toInt) (ho : offs[(x.toInt - lo).toNat]? = some off) (ht : (pc : Int) + off = (tgt : Int)) (k : V p l e R s m args below meth c G nL Q h cells slots tgt lv st) : V p l e R s m args below meth c G nL Q h cells slots pc lv (.inl x :: st) := fun H locs ls hH hS hL => lv_tableIn C.1 C.2.1 d h1 h2 ho ht (k H locs ls hH hS hL)
end Rows
end
section
section Rows2
variable {p : Program} {l : Launch} {e : Env} {R : Room} {s : State} {m : MethodId} {args : Array Value} {below : List Frame} {meth : Method} {c : Code} {cc : ByteArray} {own : String} {G : Gl} {nL : Nat} {Q : State → Prop} {h : Hs} {cells slots pc : Nat} {lv : List (Option Wd)} {st : List Wd}
theorem r_getI (C : Cx p s m args meth c cc own nL G) {idx ci j : Nat} {o : Option Nat} {v : Int32} (d : decode cc pc = .ok (.getfield idx, 3)) (fl : FL own idx ci j) (hr : refTy (tyOf ci j) = false) (eq : oI ci j h o = some v) (k : V p l e R s m args below meth c G nL Q h cells slots (pc + 3) lv (.inl v :: st)) : V p l e R s m args below meth c G nL Q h cells slots pc lv (.inr o :: st) := by
  cases o with
  | none => cases eq
  | some a =>
    unfold oI at eq
    simp only at eq
    split at eq
    · rename_i hs
      cases eq
      intro H locs ls hH hS hL
      obtain ⟨Cn, T, N, ty, ⟨f1, f2, f3, f4, f5, f6, f7⟩, hj, hlk⟩ := fl
      obtain ⟨hx, hb, hml, hown, hts, hK, hNW, hlk2, hbs⟩ := C
      have ha := hH.lt hs (by omega)
      have he := ws_at (G := G) ha
      rw [ce_obj hs f6] at he
      refine va_get (v := .int (gI h (100 * ci + j) a)) hx hb hts f2 hown hK hH.1 a he f1 j hj (hts _ hlk) (fun _ q => q) ?_ d (k H locs ls hH hS hL)
      rw [fvs_at (by rw [f5]; exact hj)]
      simp [fv, hr]
    · cases eq
theorem r_getR (C : Cx p s m args meth c cc own nL G) {idx ci j : Nat} {o : Option Nat} {v : Option Nat} (d : decode cc pc = .ok (.getfield idx, 3)) (fl : FL own idx ci j) (hr : refTy (tyOf ci j) = true) (eq : oR ci j h o = some v) (k : V p l e R s m args below meth c G nL Q h cells slots (pc + 3) lv (.inr v :: st)) : V p l e R s m args below meth c G nL Q h cells slots pc lv (.inr o :: st) := by
  cases o with
  | none => cases eq
  | some a =>
    unfold oR at eq
    simp only at eq
    split at eq
    · rename_i hs
      cases eq
      intro H locs ls hH hS hL
      obtain ⟨Cn, T, N, ty, ⟨f1, f2, f3, f4, f5, f6, f7⟩, hj, hlk⟩ := fl
      obtain ⟨hx, hb, hml, hown, hts, hK, hNW, hlk2, hbs⟩ := C
      have ha := hH.lt hs (by omega)
      have he := ws_at (G := G) ha
      rw [ce_obj hs f6] at he
      refine va_get (v := va_rf (rf G.1 (gR h (100 * ci + j) a))) hx hb hts f2 hown hK hH.1 a he f1 j hj (hts _ hlk) (fun _ q => q) ?_ d (k H locs ls hH hS hL)
      rw [fvs_at (by rw [f5]; exact hj)]
      simp [fv, hr]
    · cases eq
/-- the written world is the picture's -/
theorem HP.put {H H1 : Heap} {h h' : Hs} {a : Nat} (hH : HP G h H) (ha : a < sz h) (hz : sz h' = sz h) (hsh : ∀ k, (sh h' k).1 = (sh h k).1) (ho : ∀ k, k ≠ a → ce G h' k = ce G h k) (hat : va_at G.2.1 cls13 (G.1 + a, ce G h' a) H1) (oq : ∀ q : Nat, q ≠ G.1 + a → H1[q]? = H[q]?) (hsz : H1.size = H.size) : HP G h' H1 := by
  have hP := hH.1.set (ws_D G h) (ws_at ha) hat oq
  rw [ws_set ha hz (fun k _ hk => ho k hk)] at hP
  refine ⟨hP, by rw [hsz, hz]; exact hH.2.1, fun q hq => ?_⟩
  rw [hsh]
  exact hH.2.2 q (by rw [← hz]; exact hq)
theorem HP.objAt {H : Heap} (hH : HP G h H) {a ci : Nat} {q : vw_C} (hs : (sh h a).1 = ci) (hc : ci < 13) (hq : cls13[ci]? = some q) : t_OB (G.1 + a) (G.2.1.1 ci) q.2.2 (G.2.1.2 ci) H (vp_V (fvs G.1 h ci a)) := by
  have ha := hH.lt hs (by omega)
  have he := hH.1 a _ (ws_at ha)
  rw [ce_obj hs hc] at he
  obtain ⟨r, h1, h2⟩ := he
  cases h1.symm.trans hq
  exact h2
theorem HP.arrAt {H : Heap} (hH : HP G h H) {a t : Nat} (hs : (sh h a).1 = 20 + t) (ht : t < 3) : H[G.1 + a]? = some (arrV (G.2.2 t) (sh h a).2 (fun j => .int (aI h a j))) := by
  have ha := hH.lt hs (by omega)
  have he := hH.1 a _ (ws_at ha)
  rw [ce_int hs ht] at he
  exact he
theorem HP.refAt {H : Heap} (hH : HP G h H) {a t : Nat} (hs : (sh h a).1 = 20 + t) (ht : 3 ≤ t) (ht2 : t < 7) : H[G.1 + a]? = some (arrV (G.2.2 t) (sh h a).2 (fun j => va_rf (rf G.1 (aR h a j)))) := by
  have ha := hH.lt hs (by omega)
  have he := hH.1 a _ (ws_at ha)
  rw [ce_ref hs ht] at he
  exact he
theorem nar_ref {t : FieldType} (hr : refTy t = true) {o : Option Nat} : narrow t (va_rf o) = va_rf o := by
  cases t <;> simp [refTy] at hr <;> cases o <;> rfl
theorem fit_ref {t : FieldType} (hr : refTy t = true) {o : Option Nat} : fits t (va_rf o) = true := by
  cases t <;> simp [refTy] at hr <;> cases o <;> rfl
/-- a field is written, seen from the machine: what the new cell holds -/
theorem w_put (C : Cx p s m args meth c cc own nL G) {H : Heap} {locs : List Loc} {ls : Array Slot} {rest : List Value} {idx ci j a : Nat} {v : Value} {vs : List Value} (fl : FL own idx ci j) (hfin : FN ci j ∨ (FF own ci j ∧ meth.name = "<init>")) (hn : narrow (tyOf ci j) v = v) (hf : fits (tyOf ci j) v = true) (hob : ∀ q, cls13[ci]? = some q → t_OB a (G.2.1.1 ci) q.2.2 (G.2.1.2 ci) H (vp_V vs)) (hvl : vs.length = nF ci) (d : decode cc pc = .ok (.putfield idx, 3))
    (kk : ∀ (H1 : Heap) (i : Nat), va_at G.2.1 cls13 (a, .inr (ci, vs.set j v)) H1 → (∀ q : Nat, q ≠ a → H1[q]? = H[q]?) → H1.size = H.size → W p l e R s m args below meth c H1 (locs ++ [⟨a, i⟩]) cells slots Q (F0 m (pc + 3) ls rest)) : W p l e R s m args below meth c H locs cells slots Q (F0 m pc ls (v :: .ref a :: rest)) := by
  obtain ⟨Cn, T, N, ty, ⟨f1, f2, f3, f4, f5, f6, f7⟩, hj, hlk⟩ := fl
  obtain ⟨hx, hb, hml, hown, hts, hK, hNW, hlk2, hbs⟩ := C
  have hap := va_apart (own := own) hts f2 ty f3 f4 hK f1
  obtain ⟨cell, q1, q2, q3, q4⟩ := hob _ f1
  obtain ⟨hS, hfc, kC, hkC, hkind⟩ := hK.1 ci _ f1
  obtain ⟨cf, kf, fi, f, hi, hsl⟩ := hS j hj
  have hst := (u_facts hfc hkC (u_lays hts f2 hj) hi).1
  have hd : parseFieldDescriptor (T j).2.2.1 = some (tyOf ci j) := by rw [f7]; exact f3 j hj
  have hlt : f.slot < cell.slots.size := by rw [hsl]; exact k2_hasslot (q4 j hj)
  have fin : ∀ H' : Heap, H'[a]? = some (cell.setSlot f.slot v) → va_at G.2.1 cls13 (a, .inr (ci, vs.set j v)) H' := fun H' e1 => by
    rw [hsl] at e1
    exact ⟨_, f1, t_OB.to (V := updV (vp_V vs) j v) ⟨_, e1, q2, q3, t_set q4 hap hj v⟩ (fun i _ => vp_updV_set (by rw [hvl, f5]; exact hj) v i)⟩
  have hlay := hts _ (f2 _ (u_in_lay hj))
  unfold u_lay at hlay
  rcases hfin with hfin | ⟨hfin, hini⟩
  · have hff := hfin _ f1
    simp only at hff
    rw [if_neg (by rw [hff]; decide)] at hlay
    have h6 := u_store hfc hkC hkind hlay hi hd hn hf
    exact W.putK hx hb (f := f) ⟨hown, hts _ hlk, ⟨_, _, _, hi⟩, hst⟩ (by rw [q2]; exact h6) q1 q3 hlt rfl rfl d fun H' e1 e2 e3 => kk H' _ (fin H' e1) e3 e2
  · obtain ⟨hff, hdecl⟩ := hfin _ f1
    simp only at hff hdecl
    rw [if_pos hff] at hlay
    have hcf : m.cls = cf := by
      obtain ⟨_, _, c', _, _, _, -, -, hf', -, -, -, hown2, -⟩ := Cond.laysFinal_spec hlay
      have e1 : c' = cf := by have := hi.symm.trans hf'; simp at this; exact this.1.symm
      rw [hdecl] at hown2
      rw [← e1]; exact Option.some.inj (hown.symm.trans hown2)
    have h6 := u_fits hfc hkC hkind (Or.inr hlay) hi hd hn hf
    exact W.putFinK hx hb hown (hts _ hlk) hi hst hcf hini (by rw [q2]; exact h6) q1 q3 hlt rfl rfl d fun H' e1 e2 e3 => kk H' _ (fin H' e1) e3 e2
theorem S_put {H H1 : Heap} {locs : List Loc} {a i : Nat} (hS : va_S (AG G) s.heap H locs) (oq : ∀ q : Nat, q ≠ G.1 + a → H1[q]? = H[q]?) (hsz : H1.size = H.size) : va_S (AG G) s.heap H1 (locs ++ [⟨G.1 + a, i⟩]) := hS.put hsz oq (Nat.le_add_right _ _)
theorem r_putI (C : Cx p s m args meth c cc own nL G) {idx ci j : Nat} {o : Option Nat} {v : Int32} {h' : Hs} (d : decode cc pc = .ok (.putfield idx, 3)) (fl : FL own idx ci j) (hfin : FN ci j ∨ (FF own ci j ∧ meth.name = "<init>")) (hr : tyOf ci j = .int) (eq : qI ci j h o v = some h') (k : V p l e R s m args below meth c G nL Q h' cells slots (pc + 3) lv st) : V p l e R s m args below meth c G nL Q h cells slots pc lv (.inl v :: .inr o :: st) := by
  cases o with
  | none => cases eq
  | some a =>
    unfold qI at eq
    simp only at eq
    split at eq
    · rename_i hs
      cases eq
      skip
      intro H locs ls hH hS hL
      have f6 : ci < 13 := by obtain ⟨Cn, T, N, ty, ⟨f1, f2, f3, f4, f5, f6, f7⟩, hj, hlk⟩ := fl; exact f6
      have hj : j < nF ci := by obtain ⟨Cn, T, N, ty, ⟨f1, f2, f3, f4, f5, f6, f7⟩, hj, hlk⟩ := fl; rw [f5]; exact hj
      have ha := hH.lt hs (by omega)
      refine w_put C (v := .int v) (vs := fvs G.1 h ci a) fl hfin (by rw [hr]; rfl) (by rw [hr]; rfl) (fun q hq => hH.objAt hs f6 hq) (by simp [fvs]) d (fun H1 i hat oq hsz => ?_)
      refine k H1 _ ls (hH.put (h' := uI h (100 * ci + j) a v) ha rfl (fun _ => rfl) (fun k hk => ce_uI hk) ?_ oq hsz) (S_put hS oq hsz) hL
      rw [ce_obj (h := uI h (100 * ci + j) a v) (c := ci) hs f6, fvs_uI hj (by rw [hr]; rfl)]
      exact hat
    · cases eq
theorem r_putZ (C : Cx p s m args meth c cc own nL G) {idx ci j : Nat} {o : Option Nat} {v : Int32} {h' : Hs} (d : decode cc pc = .ok (.putfield idx, 3)) (fl : FL own idx ci j) (hfin : FN ci j ∨ (FF own ci j ∧ meth.name = "<init>")) (hr : tyOf ci j = .boolean) (eq : qZ ci j h o v = some h') (k : V p l e R s m args below meth c G nL Q h' cells slots (pc + 3) lv st) : V p l e R s m args below meth c G nL Q h cells slots pc lv (.inl v :: .inr o :: st) := by
  cases o with
  | none => cases eq
  | some a =>
    unfold qZ at eq
    simp only at eq
    split at eq
    · rename_i hs
      cases eq
      obtain ⟨hs, hv⟩ := hs
      intro H locs ls hH hS hL
      have f6 : ci < 13 := by obtain ⟨Cn, T, N, ty, ⟨f1, f2, f3, f4, f5, f6, f7⟩, hj, hlk⟩ := fl; exact f6
      have hj : j < nF ci := by obtain ⟨Cn, T, N, ty, ⟨f1, f2, f3, f4, f5, f6, f7⟩, hj, hlk⟩ := fl; rw [f5]; exact hj
      have ha := hH.lt hs (by omega)
      refine w_put C (v := .int v) (vs := fvs G.1 h ci a) fl hfin (by rw [hr]; rcases hv with rfl | rfl <;> rfl) (by rw [hr]; rcases hv with rfl | rfl <;> rfl) (fun q hq => hH.objAt hs f6 hq) (by simp [fvs]) d (fun H1 i hat oq hsz => ?_)
      refine k H1 _ ls (hH.put (h' := uI h (100 * ci + j) a v) ha rfl (fun _ => rfl) (fun k hk => ce_uI hk) ?_ oq hsz) (S_put hS oq hsz) hL
      rw [ce_obj (h := uI h (100 * ci + j) a v) (c := ci) hs f6, fvs_uI hj (by rw [hr]; rfl)]
      exact hat
    · cases eq
theorem r_putR (C : Cx p s m args meth c cc own nL G) {idx ci j : Nat} {o : Option Nat} {v : Option Nat} {h' : Hs} (d : decode cc pc = .ok (.putfield idx, 3)) (fl : FL own idx ci j) (hfin : FN ci j ∨ (FF own ci j ∧ meth.name = "<init>")) (hr : refTy (tyOf ci j) = true) (eq : qR ci j h o v = some h') (k : V p l e R s m args below meth c G nL Q h' cells slots (pc + 3) lv st) : V p l e R s m args below meth c G nL Q h cells slots pc lv (.inr v :: .inr o :: st) := by
  cases o with
  | none => cases eq
  | some a =>
    unfold qR at eq
    simp only at eq
    split at eq
    · rename_i hs
      cases eq
      skip
      intro H locs ls hH hS hL
      have f6 : ci < 13 := by obtain ⟨Cn, T, N, ty, ⟨f1, f2, f3, f4, f5, f6, f7⟩, hj, hlk⟩ := fl; exact f6
      have hj : j < nF ci := by obtain ⟨Cn, T, N, ty, ⟨f1, f2, f3, f4, f5, f6, f7⟩, hj, hlk⟩ := fl; rw [f5]; exact hj
      have ha := hH.lt hs (by omega)
      refine w_put C (v := va_rf (rf G.1 v)) (vs := fvs G.1 h ci a) fl hfin (nar_ref hr) (fit_ref hr) (fun q hq => hH.objAt hs f6 hq) (by simp [fvs]) d (fun H1 i hat oq hsz => ?_)
      refine k H1 _ ls (hH.put (h' := uR h (100 * ci + j) a v) ha rfl (fun _ => rfl) (fun k hk => ce_uR hk) ?_ oq hsz) (S_put hS oq hsz) hL
      rw [ce_obj (h := uR h (100 * ci + j) a v) (c := ci) hs f6, fvs_uR hj hr]
      exact hat
    · cases eq
theorem r_iald (C : Cx p s m args meth c cc own nL G) {o : Option Nat} {i v : Int32} (d : decode cc pc = .ok (.iaload, 1)) (eq : lA 20 h o i = some v) (k : V p l e R s m args below meth c G nL Q h cells slots (pc + 1) lv (.inl v :: st)) : V p l e R s m args below meth c G nL Q h cells slots pc lv (.inl i :: .inr o :: st) := by
  cases o with
  | none => cases eq
  | some a =>
    unfold lA at eq
    simp only at eq
    split at eq
    · rename_i hs
      obtain ⟨hs, hi⟩ := hs
      cases eq
      intro H locs ls hH hS hL
      have ha := hH.lt hs (by omega)
      have he := ws_at (G := G) ha
      rw [ce_int (t := 0) hs (by omega)] at he
      obtain ⟨hx, hb, hml, hown, hts, hK, hNW, hlk2, hbs⟩ := C
      exact va_iald hx hb hK hH.1 a 0 he rfl (ixb_in hi) d (k H locs ls hH hS hL)
    · cases eq
theorem r_zald (C : Cx p s m args meth c cc own nL G) {o : Option Nat} {i v : Int32} (d : decode cc pc = .ok (.baload, 1)) (eq : lA 21 h o i = some v) (k : V p l e R s m args below meth c G nL Q h cells slots (pc + 1) lv (.inl v :: st)) : V p l e R s m args below meth c G nL Q h cells slots pc lv (.inl i :: .inr o :: st) := by
  cases o with
  | none => cases eq
  | some a =>
    unfold lA at eq
    simp only at eq
    split at eq
    · rename_i hs
      obtain ⟨hs, hi⟩ := hs
      cases eq
      intro H locs ls hH hS hL
      have ha := hH.lt hs (by omega)
      have he := ws_at (G := G) ha
      rw [ce_int (t := 1) hs (by omega)] at he
      obtain ⟨hx, hb, hml, hown, hts, hK, hNW, hlk2, hbs⟩ := C
      exact va_zald hx hb hK hH.1 a 1 he rfl (ixb_in hi) d (k H locs ls hH hS hL)
    · cases eq
theorem r_bald (C : Cx p s m args meth c cc own nL G) {o : Option Nat} {i v : Int32} (d : decode cc pc = .ok (.baload, 1)) (eq : lA 22 h o i = some v) (k : V p l e R s m args below meth c G nL Q h cells slots (pc + 1) lv (.inl v :: st)) : V p l e R s m args below meth c G nL Q h cells slots pc lv (.inl i :: .inr o :: st) := by
  cases o with
  | none => cases eq
  | some a =>
    unfold lA at eq
    simp only at eq
    split at eq
    · rename_i hs
      obtain ⟨hs, hi⟩ := hs
      cases eq
      intro H locs ls hH hS hL
      have ha := hH.lt hs (by omega)
      have he := ws_at (G := G) ha
      rw [ce_int (t := 2) hs (by omega)] at he
      obtain ⟨hx, hb, hml, hown, hts, hK, hNW, hlk2, hbs⟩ := C
      exact va_bald hx hb hK hH.1 a 2 he rfl (ixb_in hi) d (k H locs ls hH hS hL)
    · cases eq
theorem r_qald (C : Cx p s m args meth c cc own nL G) {t : Nat} {cn : String} {o : Option Nat} {i : Int32} {v : Option Nat} (d : decode cc pc = .ok (.aaload, 1)) (ht : 3 ≤ t) (ht2 : t < 7) (hty : (tys7 G.2.2)[t]? = some (G.2.2 t, .object cn)) (eq : lQ (20 + t) h o i = some v) (k : V p l e R s m args below meth c G nL Q h cells slots (pc + 1) lv (.inr v :: st)) : V p l e R s m args below meth c G nL Q h cells slots pc lv (.inl i :: .inr o :: st) := by
  cases o with
  | none => cases eq
  | some a =>
    unfold lQ at eq
    simp only at eq
    split at eq
    · rename_i hs
      obtain ⟨hs, hi⟩ := hs
      cases eq
      intro H locs ls hH hS hL
      have ha := hH.lt hs (by omega)
      have he := ws_at (G := G) ha
      rw [ce_ref hs ht] at he
      obtain ⟨hx, hb, hml, hown, hts, hK, hNW, hlk2, hbs⟩ := C
      exact va_aldq hx hb hK hH.1 a t he hty (ixb_in hi) d (k H locs ls hH hS hL)
    · cases eq
theorem r_iast (C : Cx p s m args meth c cc own nL G) {o : Option Nat} {i v : Int32} {h' : Hs} (d : decode cc pc = .ok (.iastore, 1)) (eq : sA h o i v = some h') (k : V p l e R s m args below meth c G nL Q h' cells slots (pc + 1) lv st) : V p l e R s m args below meth c G nL Q h cells slots pc lv (.inl v :: .inl i :: .inr o :: st) := by
  cases o with
  | none => cases eq
  | some a =>
    unfold sA at eq
    simp only at eq
    split at eq
    · rename_i hs
      obtain ⟨hs, hi⟩ := hs
      cases eq
      intro H locs ls hH hS hL
      obtain ⟨hx, hb, hml, hown, hts, hK, hNW, hlk2, hbs⟩ := C
      have ha := hH.lt hs (by omega)
      have hin := ixb_in hi
      refine W.iast hx hb (hH.arrAt (t := 0) hs (by omega)) ((hK.2 0 _ rfl).1 _ _) (fun q => by cases q) (by rw [arrV_size]; exact hin) rfl rfl d fun H1 ew z oq => ?_
      refine k H1 _ ls (hH.put (h' := uA h a i.toNatClampNeg (v)) ha rfl (fun _ => rfl) (fun k hk => ce_uA hk) ?_ oq z) (S_put hS oq z) hL
      rw [ce_int (h := uA h a i.toNatClampNeg (v)) (t := 0) hs (by omega)]
      show H1[G.1 + a]? = some (vp_cell _ _)
      rw [ew, vp_cell_i, arrV_store]
      congr 2
      funext q
      by_cases hq : q = i.toNatClampNeg
      · subst hq
        simp [updV, uA, aI]
        try rfl
      · simp [updV, uA, aI, hq]
    · cases eq
theorem r_zast (C : Cx p s m args meth c cc own nL G) {o : Option Nat} {i v : Int32} {h' : Hs} (d : decode cc pc = .ok (.bastore, 1)) (eq : sZ h o i v = some h') (k : V p l e R s m args below meth c G nL Q h' cells slots (pc + 1) lv st) : V p l e R s m args below meth c G nL Q h cells slots pc lv (.inl v :: .inl i :: .inr o :: st) := by
  cases o with
  | none => cases eq
  | some a =>
    unfold sZ at eq
    simp only at eq
    split at eq
    · rename_i hs
      obtain ⟨hs, hi⟩ := hs
      cases eq
      intro H locs ls hH hS hL
      obtain ⟨hx, hb, hml, hown, hts, hK, hNW, hlk2, hbs⟩ := C
      have ha := hH.lt hs (by omega)
      have hin := ixb_in hi
      refine W.zast hx hb (hH.arrAt (t := 1) hs (by omega)) ((hK.2 1 _ rfl).1 _ _) (fun q => by cases q) (by rw [arrV_size]; exact hin) rfl rfl d fun H1 ew z oq => ?_
      refine k H1 _ ls (hH.put (h' := uA h a i.toNatClampNeg (vp_nar .boolean v)) ha rfl (fun _ => rfl) (fun k hk => ce_uA hk) ?_ oq z) (S_put hS oq z) hL
      rw [ce_int (h := uA h a i.toNatClampNeg (vp_nar .boolean v)) (t := 1) hs (by omega)]
      show H1[G.1 + a]? = some (vp_cell _ _)
      rw [ew, vp_cell_i, arrV_store]
      congr 2
      funext q
      by_cases hq : q = i.toNatClampNeg
      · subst hq
        simp [updV, uA, aI, vp_nar]
        try rfl
      · simp [updV, uA, aI, hq]
    · cases eq
theorem r_bast (C : Cx p s m args meth c cc own nL G) {o : Option Nat} {i v : Int32} {h' : Hs} (d : decode cc pc = .ok (.bastore, 1)) (eq : sB h o i v = some h') (k : V p l e R s m args below meth c G nL Q h' cells slots (pc + 1) lv st) : V p l e R s m args below meth c G nL Q h cells slots pc lv (.inl v :: .inl i :: .inr o :: st) := by
  cases o with
  | none => cases eq
  | some a =>
    unfold sB at eq
    simp only at eq
    split at eq
    · rename_i hs
      obtain ⟨hs, hi⟩ := hs
      cases eq
      intro H locs ls hH hS hL
      obtain ⟨hx, hb, hml, hown, hts, hK, hNW, hlk2, hbs⟩ := C
      have ha := hH.lt hs (by omega)
      have hin := ixb_in hi
      refine W.bast hx hb (hH.arrAt (t := 2) hs (by omega)) ((hK.2 2 _ rfl).1 _ _) (fun q => by cases q) (by rw [arrV_size]; exact hin) rfl rfl d fun H1 ew z oq => ?_
      refine k H1 _ ls (hH.put (h' := uA h a i.toNatClampNeg (vp_nar .byte v)) ha rfl (fun _ => rfl) (fun k hk => ce_uA hk) ?_ oq z) (S_put hS oq z) hL
      rw [ce_int (h := uA h a i.toNatClampNeg (vp_nar .byte v)) (t := 2) hs (by omega)]
      show H1[G.1 + a]? = some (vp_cell _ _)
      rw [ew, vp_cell_i, arrV_store]
      congr 2
      funext q
      by_cases hq : q = i.toNatClampNeg
      · subst hq
        simp [updV, uA, aI, vp_nar]
        try rfl
      · simp [updV, uA, aI, hq]
    · cases eq
end Rows2
end
section
section Rows3
variable {p : Program} {l : Launch} {e : Env} {R : Room} {s : State} {m : MethodId} {args : Array Value} {below : List Frame} {meth : Method} {c : Code} {cc : ByteArray} {own : String} {G : Gl} {nL : Nat} {Q : State → Prop} {h : Hs} {cells slots pc : Nat} {lv : List (Option Wd)} {st : List Wd}
theorem r_qast (C : Cx p s m args meth c cc own nL G) {t ci : Nat} {r : vw_C} {o v : Option Nat} {i : Int32} {h' : Hs} (d : decode cc pc = .ok (.aastore, 1)) (ht : 3 ≤ t) (ht2 : t < 7) (hc13 : ci < 13) (hc : cls13[ci]? = some r) (hty : (tys7 G.2.2)[t]? = some (G.2.2 t, .object r.1)) (eq : sQ (20 + t) ci h o i v = some h') (k : V p l e R s m args below meth c G nL Q h' cells slots (pc + 1) lv st) : V p l e R s m args below meth c G nL Q h cells slots pc lv (.inr v :: .inl i :: .inr o :: st) := by
  cases o with
  | none => cases v <;> cases eq
  | some a =>
    cases v with
    | none => cases eq
    | some w =>
      unfold sQ at eq
      simp only at eq
      split at eq
      · rename_i hs
        obtain ⟨hs, hi, hw⟩ := hs
        cases eq
        intro H locs ls hH hS hL
        obtain ⟨hx, hb, hml, hown, hts, hK, hNW, hlk2, hbs⟩ := C
        have ha := hH.lt hs (by omega)
        have hin := ixb_in hi
        have hlt : i.toNatClampNeg < (sh h a).2 := Nat.not_le.mp fun q => hin (Or.inr q)
        have h0 : ¬ i < 0 := fun q => hin (Or.inl q)
        obtain ⟨cellV, g1, g2, g3, -⟩ := hH.objAt hw hc13 hc
        have hcls := (hK.1 ci r hc).2
        obtain ⟨kA, comp, k1, k2, k3, -⟩ := (hK.2 t _ hty).2
        have hcomp : comp = G.2.1.1 ci := Option.some.inj (k3.symm.trans hcls.1)
        subst hcomp
        obtain ⟨kC, hkC, -⟩ := hcls.2
        refine W.aast hx hb (hH.refAt (t := t) hs ht ht2) (fun q h => by cases h) (fun h => by cases h) k1 k2 rfl hkC ⟨h0, by rw [arrV_size]; exact hlt⟩ g1 (fun q h => by rw [g3] at h; cases h) (by rw [g2]; exact hkC) (by rw [g2]; exact va_assign hcls) rfl rfl d fun H1 ew z oq => ?_
        refine k H1 _ ls (hH.put (h' := uQ h a i.toNatClampNeg (some w)) ha rfl (fun _ => rfl) (fun k hk => ce_uQ hk) ?_ oq z) (S_put hS oq z) hL
        rw [ce_ref (h := uQ h a i.toNatClampNeg (some w)) (t := t) hs ht]
        show H1[G.1 + a]? = some (vp_cell _ _)
        rw [ew, vp_cell_q, arrV_store]
        congr 2
        funext q
        by_cases hq : q = i.toNatClampNeg
        · subst hq
          simp [updV, uQ, aR, va_rf, rf]
        · simp [updV, uQ, aR, hq]
      · cases eq
theorem r_alen (C : Cx p s m args meth c cc own nL G) {o : Option Nat} {v : Int32} (d : decode cc pc = .ok (.arraylength, 1)) (eq : oL h o = some v) (k : V p l e R s m args below meth c G nL Q h cells slots (pc + 1) lv (.inl v :: st)) : V p l e R s m args below meth c G nL Q h cells slots pc lv (.inr o :: st) := by
  cases o with
  | none => cases eq
  | some a =>
    unfold oL at eq
    simp only at eq
    split at eq
    · rename_i hs
      cases eq
      intro H locs ls hH hS hL
      obtain ⟨hx, hb, hml, hown, hts, hK, hNW, hlk2, hbs⟩ := C
      exact W.alen (n := Int32.ofNat (sh h a).2) hx hb (hH.arrAt (t := 0) hs (by omega)) ((hK.2 0 _ rfl).1 _ _) (by rw [arrV_size] <;> rfl) rfl rfl d (k H locs ls hH hS hL)
    · cases eq
/-- a new cell -/
theorem HP.new {H H1 : Heap} (hH : HP G h H) (kd : Nat × Nat) (hkd : kd.1 ≠ 99) (hat : va_at G.2.1 cls13 (G.1 + sz h, ce G (nw h kd) (sz h)) H1) (hsz : H1.size = H.size + 1) (oq : ∀ q : Nat, q < H.size → H1[q]? = H[q]?) : HP G (nw h kd) H1 := by
  have hz : sz (nw h kd) = sz h + 1 := rfl
  refine ⟨?_, by rw [hsz, hz, hH.2.1]; omega, fun q hq => ?_⟩
  · intro k q hq
    have hk : k < sz h + 1 := by
      have := (List.getElem?_eq_some_iff.mp hq).1
      simpa [wsO, hz] using this
    rw [ws_at (by rw [hz]; exact hk)] at hq
    cases hq
    by_cases e1 : k = sz h
    · subst e1
      exact hat
    · have hk2 : k < sz h := by omega
      have h1 : ce G (nw h kd) k = ce G h k := ce_congr (by simp [sh, nw, e1]) (fun f => by simp [gI, nw, e1]) (fun f => by simp [gR, nw, e1]) (by funext j; simp [aI, nw, e1]) (by funext j; simp [aR, nw, e1])
      rw [h1]
      have h2 := hH.1 k _ (ws_at hk2)
      exact h2.kept (oq _ h2.lt)
  · rw [hz] at hq
    have e1 : ¬ q = sz h := by omega
    have : sh (nw h kd) q = sh h q := by simp [sh, nw, e1]
    rw [this]
    exact hH.2.2 q (by omega)
theorem S_new {H H1 : Heap} {locs : List Loc} (hS : va_S (AG G) s.heap H locs) (hsz : H1.size = H.size + 1) (oq : ∀ q : Nat, q < H.size → H1[q]? = H[q]?) : va_S (AG G) s.heap H1 locs := ⟨by have := hS.1; omega, fun q h1 h2 => (oq q (Nat.lt_of_lt_of_le h1 hS.1)).trans (hS.2.1 q h1 h2), hS.2.2⟩
theorem dflt_ref {t : FieldType} (hr : refTy t = true) : defaultValue t = .null := by
  cases t <;> simp [refTy] at hr <;> rfl
theorem r_new (C : Cx p s m args meth c cc own nL G) {idx ci N : Nat} {Cn : String} {T : u_T} {ty : Nat → FieldType} (d : decode cc pc = .ok (.new idx, 3)) (F : FC ci Cn T N ty) (hcl : Cond.classLink own idx Cn ∈ gtb) (hins : Cond.instantiable Cn N ∈ gtb) (hini : Cond.initialized Cn ∈ gtb) (hdf : ∀ j, j < N → refTy (tyOf ci j) = true ∨ defaultValue (tyOf ci j) = .int 0) (hc1 : cells + 1 ≤ R.cells) (hs1 : slots + N ≤ R.slots) (k : V p l e R s m args below meth c G nL Q (nw h (ci, 0)) (cells + 1) (slots + N) (pc + 3) lv (.inr (some (sz h)) :: st)) : V p l e R s m args below meth c G nL Q h cells slots pc lv st := by
  intro H locs ls hH hS hL
  obtain ⟨f1, f2, f3, f4, f5, f6, f7⟩ := F
  obtain ⟨hx, hb, hml, hown, hts, hK, hNW, hlk2, hbs⟩ := C
  have hKn := hK.1 ci _ f1
  refine W.newcK hx hb hown (hts _ hcl) (hts _ hins) (hts _ hini) rfl d hc1 hs1 hKn.2.1 hH.2.1 fun H1 kC hkC e1 z1 o1 => ?_
  refine k H1 locs ls (hH.new (ci, 0) (by simp only; omega) ?_ (by rw [z1, hH.2.1]) (fun q hq => o1 q (by rw [← hH.2.1]; exact hq))) (S_new hS (by rw [z1, hH.2.1]) (fun q hq => o1 q (by rw [← hH.2.1]; exact hq))) hL
  rw [ce_obj (h := nw h (ci, 0)) (c := ci) (by simp [sh, nw]) f6]
  refine ⟨_, f1, (u_born ty hts f2 hKn hkC e1 f3).to fun j hj => ?_⟩
  have hj2 : j < nF ci := by rw [f5]; exact hj
  have h9 : vp_V (fvs G.1 (nw h (ci, 0)) ci (sz h)) j = fv G.1 (nw h (ci, 0)) ci j (sz h) := by
    simp [vp_V, fvs_at hj2]
  rw [h9, ← f7]
  by_cases hr : refTy (tyOf ci j) = true
  · rw [dflt_ref hr]
    simp [fv, hr, gR, nw, rf, va_rf]
  · rcases hdf j hj with h1 | h1
    · exact absurd h1 hr
    · rw [h1]
      simp [fv, hr, gI, nw]
theorem r_newA (C : Cx p s m args meth c cc own nL G) {at_ : ArrayType} {t N : Nat} {n : Int32} (d : decode cc pc = .ok (.newarray at_, 2)) (ht : t < 3) (hty : (tys7 G.2.2)[t]? = some (G.2.2 t, newarray.typeOf at_)) (hdf : defaultValue (newarray.typeOf at_) = .int 0) (harr : Cond.arrayClass (newarray.typeOf at_) ∈ gtb) (hn : ¬ n < 0) (hN : n.toNatClampNeg = N) (hby : N * componentBytes (newarray.typeOf at_) ≤ 536870912) (hra : ∀ U cA, va_RA U cA (newarray.typeOf at_) → U.vm.findClass ("[" ++ (newarray.typeOf at_).toString) = some cA) (hc1 : cells + 1 ≤ R.cells) (hs1 : slots + N ≤ R.slots) (k : V p l e R s m args below meth c G nL Q (nw h (20 + t, N)) (cells + 1) (slots + N) (pc + 2) lv (.inr (some (sz h)) :: st)) : V p l e R s m args below meth c G nL Q h cells slots pc lv (.inl n :: st) := by
  intro H locs ls hH hS hL
  obtain ⟨hx, hb, hml, hown, hts, hK, hNW, hlk2, hbs⟩ := C
  refine va_newaK hx hb (hts _ harr) rfl d rfl hn hN hby hc1 hs1 hH.2.1 fun H1 cA e1 z1 o1 hAr hNm => ?_
  have hcA : cA = G.2.2 t := Option.some.inj (hNm.symm.trans (hra _ _ (hK.2 t _ hty).2))
  subst hcA
  refine k H1 locs ls (hH.new (20 + t, N) (by simp only; omega) ?_ (by rw [z1, hH.2.1]) (fun q hq => o1 q (by rw [← hH.2.1]; exact hq))) (S_new hS (by rw [z1, hH.2.1]) (fun q hq => o1 q (by rw [← hH.2.1]; exact hq))) hL
  rw [ce_int (h := nw h (20 + t, N)) (t := t) (by simp [sh, nw]) ht]
  show H1[G.1 + sz h]? = some (vp_cell _ _)
  rw [e1, vp_cell_i, hdf]
  simp [sh, nw, aI]
theorem r_newQ (C : Cx p s m args meth c cc own nL G) {idx t N : Nat} {cn : String} {n : Int32} (d : decode cc pc = .ok (.anewarray idx, 3)) (ht : 3 ≤ t) (ht2 : t < 7) (hty : (tys7 G.2.2)[t]? = some (G.2.2 t, .object cn)) (hcl : Cond.classLink own idx cn ∈ gtb) (hao : NW s → va_AO cn s) (hn : ¬ n < 0) (hN : n.toNatClampNeg = N) (hby : N * 4 ≤ 536870912) (hc1 : cells + 1 ≤ R.cells) (hs1 : slots + N ≤ R.slots) (k : V p l e R s m args below meth c G nL Q (nw h (20 + t, N)) (cells + 1) (slots + N) (pc + 3) lv (.inr (some (sz h)) :: st)) : V p l e R s m args below meth c G nL Q h cells slots pc lv (.inl n :: st) := by
  subst hN
  intro H locs ls hH hS hL
  obtain ⟨hx, hb, hml, hown, hts, hK, hNW, hlk2, hbs⟩ := C
  refine W.anew hx hb hown (hts _ hcl) (va_AO.use (hao hNW)) rfl d rfl hn hby hc1 hs1 fun cA kA comp q1 q2 q3 q4 => ?_
  obtain ⟨kA', comp', k1, k2, k3, k4⟩ := (hK.2 t _ hty).2
  have hcA : cA = G.2.2 t := Option.some.inj (q1.symm.trans k4)
  subst hcA
  generalize hH1 : H.push ({ cls := G.2.2 t, slots := Array.replicate n.toNatClampNeg .null, vm := .none } : Cell) = H1
  have z1 : H1.size = H.size + 1 := by rw [← hH1, Array.size_push]
  have e1 : H1[H.size]? = some (arrV (G.2.2 t) n.toNatClampNeg (fun _ => .null)) := by rw [← hH1, Array.getElem?_push_size, ← arrV_new]
  have o1 : ∀ q : Nat, q < H.size → H1[q]? = H[q]? := fun q hq => by rw [← hH1, Array.getElem?_push, if_neg (Nat.ne_of_lt hq)]
  have k' := k H1 locs ls (hH.new (20 + t, n.toNatClampNeg) (by simp only; omega) ?_ z1 o1) (S_new hS z1 o1) hL
  · have e9 : vl G.1 (.inr (some (sz h))) = .ref H.size := by rw [hH.2.1]; rfl
    rw [List.map_cons, e9] at k'
    exact k'
  rw [ce_ref (h := nw h (20 + t, n.toNatClampNeg)) (t := t) (by simp [sh, nw]) ht]
  show H1[G.1 + sz h]? = some (vp_cell _ _)
  rw [← hH.2.1, e1, vp_cell_q]
  simp [sh, nw, aR, rf, va_rf]
/-! calls: a contract over my heap -/
def HK (G : Gl) (h : Hs) (U : State) : Prop := HP G h U.heap ∧ va_K G.2.1 cls13 (tys7 G.2.2) U ∧ NW U ∧ G.1 ≤ U.heap.size
def QcG (G : Gl) (res : Option Wd) (h' : Hs) : Array Value → State → Outcome → State → Prop := fun _ st o t => o = .returned (res.map (vl G.1)) ∧ HP G h' t.heap ∧ va_F (AG G) st t
def CT (l : Launch) (G : Gl) (y : MethodName) (bytes : ByteArray) (maxL : Nat) (ret : Option FieldType) (rm : Room) (av : List Wd) (h : Hs) (res : Option Wd) (h' : Hs) : Prop :=
  Met l y (Cond.code y bytes maxL ret :: gtb) rm (va_Pc (av.map (vl G.1)) (HK G h)) (QcG G res h') rm.cells rm.slots (AG G)
theorem HK_blind {av : List Value} : FrameBlind (va_Pc av (HK G h)) := fun a U g mk q => ⟨q.1, q.2.1, va_K.moved (u := U) (U := U.calling g mk a) (Vm.Alike.refl U.vm) q.2.2.1, ⟨q.2.2.2.1.1, q.2.2.2.1.2⟩, q.2.2.2.2⟩
theorem gt_good {y : MethodName} {bytes : ByteArray} {maxL : Nat} {ret : Option FieldType} (hc : Cond.code y bytes maxL ret ∈ gtb) : GoodIn gtb (Cond.code y bytes maxL ret :: gtb) := fun w hw => by
  have h1 : w ∈ gtb := by
    rcases List.mem_cons.mp hw with rfl | q
    · exact hc
    · exact q
  exact ⟨h1, good_of_word (gtb_good h1)⟩
/-- what every call's words have in common -/
def MC (y : MethodName) (bytes : ByteArray) (maxL : Nat) (ret : Option FieldType) (n : Nat) : Prop := Cond.code y bytes maxL ret ∈ gtb ∧ Cond.initialized y.cls ∈ gtb ∧ (y.cls ≠ "java/lang/invoke/MethodHandle" ∧ y.cls ≠ "java/lang/invoke/VarHandle" ∧ (parseMethodDescriptor y.desc).map (fun d => d.parameters.length) = some n)
theorem run_on {H : Heap} {locs : List Loc} {ls : Array Slot} {stk rest : List Value} {mc ms : Nat} {av : Array Value} {res : Option Wd} {h' : Hs} {st' : List Wd} (hrest : rest = st'.map (vl G.1)) (hbs : G.1 ≤ s.heap.size) (hS : va_S (AG G) s.heap H locs) (hL : LV G.1 ls nL lv) (hr : va_Run p l e R s m args below meth c H locs cells slots mc ms (F0 m pc ls stk) rest (QcG G res h' av) (AG G)) (k : V p l e R s m args below meth c G nL Q h' (cells + mc) (slots + ms) (pc + 3) lv (res.toList ++ st')) : W p l e R s m args below meth c H locs cells slots Q (F0 m pc ls stk) := by
  intro T hT X
  obtain ⟨v, st₀, t, T', L, h0, X', hLf, e1, e2, ⟨hv, hP, hF⟩, go⟩ := hr T hT X
  have hv' : v = res.map (vl G.1) := by cases hv; rfl
  have hS' : va_S (AG G) s.heap t.heap (locs ++ L) := by
    obtain ⟨z, oq⟩ := hF
    rw [h0] at z oq
    refine ⟨Nat.le_trans hS.1 z, fun q h1 h2 => ?_, fun q hq => ?_⟩
    · rw [oq q (Nat.lt_of_lt_of_le h1 hS.1) h2]
      exact hS.2.1 q h1 h2
    · rcases List.mem_append.mp hq with h1 | h1
      · exact hS.2.2 q h1
      · exact hLf q h1
  obtain ⟨t2, a1, b1⟩ := k t.heap (locs ++ L) ls hP hS' hL T' e1 X'
  refine ⟨t2, go t2 ?_, b1⟩
  rw [hv', hrest]
  cases res with
  | none => exact a1
  | some w => exact a1
theorem r_invV (C : Cx p s m args meth c cc own nL G) {idx n ci maxL : Nat} {y : MethodName} {bytes : ByteArray} {ret : Option FieldType} {rm : Room} {o : Option Nat} {a : Nat} {As : List Wd} {res : Option Wd} {h' : Hs} {q : vw_C} (d : decode cc pc = .ok (.invokevirtual idx, 3)) (M : MC y bytes maxL ret n) (hlk : Cond.methodLink own idx y ∈ gtb) (hin : Cond.instanceMethod y ∈ gtb) (hsel : Cond.selects y.cls y y ∈ gtb) (hq : cls13[ci]? = some q) (hqc : q.1 = y.cls) (hc13 : ci < 13) (hR : rm.frames + 1 ≤ R.frames ∧ 8 + (maxL + 11) + rm.locals ≤ R.locals) (hf : cells + rm.cells ≤ R.cells ∧ slots + rm.slots ≤ R.slots) (hn : As.length = n) (hw : st.length ≤ 8) (er : rc ci h o = some a) (ct : CT l G y bytes maxL ret rm (.inr (some a) :: As) h res h') (k : V p l e R s m args below meth c G nL Q h' (cells + rm.cells) (slots + rm.slots) (pc + 3) lv (res.toList ++ st)) : V p l e R s m args below meth c G nL Q h cells slots pc lv (As.reverse ++ .inr o :: st) := by
  cases o with
  | none => cases er
  | some a' =>
    unfold rc at er
    simp only at er
    split at er
    · rename_i hs
      cases er
      intro H locs ls hH hS hL
      have C0 := C
      obtain ⟨hx, hb, hml, hown, hts, hK, hNW, hlk2, hbs⟩ := C
      obtain ⟨m1, m2, m3⟩ := M
      obtain ⟨cell, g1, g2, g3, -⟩ := hH.objAt hs hc13 hq
      refine run_on (st' := st) rfl hbs hS hL (va_runV (C := y.cls) (As := As.map (vl G.1)) (b := G.1 + a) (n := n) (bytes := bytes) (maxL := maxL) (ret := ret) (rm := rm) ⟨hx, hb, hml, hown, hts⟩ ct ⟨callB_of n hts (gt_good m1) rfl rfl rfl (hts _ m2) (hts _ hlk) m3 hR, hts _ hin, hts _ hsel⟩ ⟨HK_blind, ⟨cell, g1, by rw [g3]; rfl, by rw [g2, ← hqc]; exact (hK.1 ci q hq).2.1⟩, fun U hU hW => ⟨rfl, by rw [hU]; exact hH, va_K.moved hW.alike hK, hNW.warm hW, by rw [hU]; have := hS.1; omega⟩⟩ rfl (by simp [hn]) hL.1 (by simp [vl, rf, va_rf]) ?_ d hf) k
      refine lv_room ?_
      have e9 : ∀ (z : List Wd), ((z.map (vl G.1)).map fun v => v.category).sum = z.length := fun z => by
        induction z with
        | nil => rfl
        | cons a z ih => simp only [List.map_cons, List.sum_cons, vl_cat, ih, List.length_cons]; omega
      rw [e9]; exact hw
    · cases er
theorem cat_sum (z : List Wd) : ((z.map (vl G.1)).map fun v => v.category).sum = z.length := by
  induction z with
  | nil => rfl
  | cons a z ih => simp only [List.map_cons, List.sum_cons, vl_cat, ih, List.length_cons]; omega
theorem r_invI (C : Cx p s m args meth c cc own nL G) {idx n maxL : Nat} {y : MethodName} {bytes : ByteArray} {rm : Room} {a : Nat} {As : List Wd} {res : Option Wd} {h' : Hs} (d : decode cc pc = .ok (.invokespecial idx, 3)) (M : MC y bytes maxL none n) (hlk : Cond.methodLink own idx y ∈ gtb) (hin : Cond.instanceMethod y ∈ gtb) (hy1 : y.name = "<init>") (hR : rm.frames + 1 ≤ R.frames ∧ 8 + (maxL + 11) + rm.locals ≤ R.locals) (hf : cells + rm.cells ≤ R.cells ∧ slots + rm.slots ≤ R.slots) (hn : As.length = n) (hw : st.length ≤ 8) (ct : CT l G y bytes maxL none rm (.inr (some a) :: As) h res h') (k : V p l e R s m args below meth c G nL Q h' (cells + rm.cells) (slots + rm.slots) (pc + 3) lv (res.toList ++ st)) : V p l e R s m args below meth c G nL Q h cells slots pc lv (As.reverse ++ .inr (some a) :: st) := by
  intro H locs ls hH hS hL
  obtain ⟨hx, hb, hml, hown, hts, hK, hNW, hlk2, hbs⟩ := C
  obtain ⟨m1, m2, m3⟩ := M
  exact run_on (st' := st) rfl hbs hS hL (va_runI (As := As.map (vl G.1)) (b := G.1 + a) (n := n) (bytes := bytes) (maxL := maxL) (rm := rm) ⟨hx, hb, hml, hown, hts⟩ ct ⟨callB_of n hts (gt_good m1) rfl rfl rfl (hts _ m2) (hts _ hlk) m3 hR, hy1, hts _ hin⟩ ⟨HK_blind, fun U hU hW => ⟨rfl, by rw [hU]; exact hH, va_K.moved hW.alike hK, hNW.warm hW, by rw [hU]; have := hS.1; omega⟩⟩ rfl (by simp [hn]) hL.1 (by simp [vl, rf, va_rf]) (lv_room (by rw [cat_sum]; exact hw)) d hf) k
theorem r_invIN (C : Cx p s m args meth c cc own nL G) {idx n maxL : Nat} {y : MethodName} {host : String} {bytes : ByteArray} {rm : Room} {a : Nat} {As : List Wd} {res : Option Wd} {h' : Hs} (d : decode cc pc = .ok (.invokespecial idx, 3)) (M : MC y bytes maxL none n) (hlk : (own, idx, y, host) ∈ nws) (hin : Cond.instanceMethod y ∈ gtb) (hy1 : y.name = "<init>") (hR : rm.frames + 1 ≤ R.frames ∧ 8 + (maxL + 11) + rm.locals ≤ R.locals) (hf : cells + rm.cells ≤ R.cells ∧ slots + rm.slots ≤ R.slots) (hn : As.length = n) (hw : st.length ≤ 8) (ct : CT l G y bytes maxL none rm (.inr (some a) :: As) h res h') (k : V p l e R s m args below meth c G nL Q h' (cells + rm.cells) (slots + rm.slots) (pc + 3) lv (res.toList ++ st)) : V p l e R s m args below meth c G nL Q h cells slots pc lv (As.reverse ++ .inr (some a) :: st) := by
  intro H locs ls hH hS hL
  obtain ⟨hx, hb, hml, hown, hts, hK, hNW, hlk2, hbs⟩ := C
  obtain ⟨m1, m2, m3⟩ := M
  exact run_on (st' := st) rfl hbs hS hL (va_runIN (host := host) (As := As.map (vl G.1)) (b := G.1 + a) (n := n) (bytes := bytes) (maxL := maxL) (rm := rm) ⟨hx, hb, hml, hown, hts⟩ ct ⟨va_cnB n hts (gt_good m1) rfl rfl rfl (hNW.1 _ hlk) (hts _ m2) m3 hR, hy1, hts _ hin⟩ ⟨HK_blind, fun U hU hW => ⟨rfl, by rw [hU]; exact hH, va_K.moved hW.alike hK, hNW.warm hW, by rw [hU]; have := hS.1; omega⟩⟩ rfl (by simp [hn]) hL.1 (by simp [vl, rf, va_rf]) (lv_room (by rw [cat_sum]; exact hw)) d hf) k
theorem r_invS (C : Cx p s m args meth c cc own nL G) {idx n maxL : Nat} {y : MethodName} {bytes : ByteArray} {ret : Option FieldType} {rm : Room} {As : List Wd} {res : Option Wd} {h' : Hs} (d : decode cc pc = .ok (.invokestatic idx, 3)) (M : MC y bytes maxL ret n) (hlk : Cond.methodLink own idx y ∈ gtb) (hstat : Cond.static y ∈ gtb) (hR : rm.frames + 1 ≤ R.frames ∧ 8 + (maxL + 11) + rm.locals ≤ R.locals) (hf : cells + rm.cells ≤ R.cells ∧ slots + rm.slots ≤ R.slots) (hn : As.length = n) (hw : st.length ≤ 8) (ct : CT l G y bytes maxL ret rm As h res h') (k : V p l e R s m args below meth c G nL Q h' (cells + rm.cells) (slots + rm.slots) (pc + 3) lv (res.toList ++ st)) : V p l e R s m args below meth c G nL Q h cells slots pc lv (As.reverse ++ st) := by
  intro H locs ls hH hS hL
  obtain ⟨hx, hb, hml, hown, hts, hK, hNW, hlk2, hbs⟩ := C
  obtain ⟨m1, m2, m3⟩ := M
  exact run_on (st' := st) rfl hbs hS hL (va_runS (As := As.map (vl G.1)) (n := n) (bytes := bytes) (maxL := maxL) (ret := ret) (rm := rm) ⟨hx, hb, hml, hown, hts⟩ ct ⟨callB_of n hts (gt_good m1) rfl rfl rfl (hts _ m2) (hts _ hlk) m3 hR, hts _ hstat⟩ ⟨HK_blind, fun U hU hW => ⟨rfl, by rw [hU]; exact hH, va_K.moved hW.alike hK, hNW.warm hW, by rw [hU]; have := hS.1; omega⟩⟩ rfl (by simp [hn]) hL.1 (by simp) (lv_room (by rw [cat_sum]; exact hw)) d hf) k
theorem r_invSN (C : Cx p s m args meth c cc own nL G) {idx n maxL : Nat} {y : MethodName} {host : String} {bytes : ByteArray} {ret : Option FieldType} {rm : Room} {As : List Wd} {res : Option Wd} {h' : Hs} (d : decode cc pc = .ok (.invokestatic idx, 3)) (M : MC y bytes maxL ret n) (hlk : (own, idx, y, host) ∈ nws) (hstat : Cond.static y ∈ gtb) (hR : rm.frames + 1 ≤ R.frames ∧ 8 + (maxL + 11) + rm.locals ≤ R.locals) (hf : cells + rm.cells ≤ R.cells ∧ slots + rm.slots ≤ R.slots) (hn : As.length = n) (hw : st.length ≤ 8) (ct : CT l G y bytes maxL ret rm As h res h') (k : V p l e R s m args below meth c G nL Q h' (cells + rm.cells) (slots + rm.slots) (pc + 3) lv (res.toList ++ st)) : V p l e R s m args below meth c G nL Q h cells slots pc lv (As.reverse ++ st) := by
  intro H locs ls hH hS hL
  obtain ⟨hx, hb, hml, hown, hts, hK, hNW, hlk2, hbs⟩ := C
  obtain ⟨m1, m2, m3⟩ := M
  exact run_on (st' := st) rfl hbs hS hL (va_runSN (host := host) (As := As.map (vl G.1)) (n := n) (bytes := bytes) (maxL := maxL) (ret := ret) (rm := rm) ⟨hx, hb, hml, hown, hts⟩ ct ⟨va_cnB n hts (gt_good m1) rfl rfl rfl (hNW.1 _ hlk) (hts _ m2) m3 hR, hts _ hstat, trivial⟩ ⟨HK_blind, fun U hU hW => ⟨rfl, by rw [hU]; exact hH, va_K.moved hW.alike hK, hNW.warm hW, by rw [hU]; have := hS.1; omega⟩⟩ rfl (by simp [hn]) hL.1 (by simp) (lv_room (by rw [cat_sum]; exact hw)) d hf) k
theorem r_objInit (C : Cx p s m args meth c cc own nL G) {idx a : Nat} (d : decode cc pc = .ok (.invokespecial idx, 3)) (hlk : Cond.methodLink own idx objectInit ∈ gtb) (h1 : Cond.instanceMethod objectInit ∈ gtb) (h2 : Cond.code objectInit ⟨#[0xb1]⟩ 1 none ∈ gtb) (hfr : 1 ≤ R.frames) (hlo : st.length + 12 ≤ R.locals) (k : V p l e R s m args below meth c G nL Q h cells slots (pc + 3) lv st) : V p l e R s m args below meth c G nL Q h cells slots pc lv (.inr (some a) :: st) := by
  intro H locs ls hH hS hL
  obtain ⟨hx, hb, hml, hown, hts, hK, hNW, hlk2, hbs⟩ := C
  refine W.objInit hx hb hown (hts _ hlk) (hts _ h1) (hts _ h2) rfl (by rw [hml]; exact hL.1) rfl d hfr ?_ (k H locs ls hH hS hL)
  show 2 * 0 + _ + 12 ≤ _
  rw [cat_sum]
  omega
/-! the ends -/
theorem r_iret (C : Cx p s m args meth c cc own nL G) {v : Int32} {mc ms : Nat} (d : decode cc pc = .ok (.ireturn, 1)) (hr : meth.sig.returnType = some .int) (h1 : cells ≤ mc) (h2 : slots ≤ ms) : V p l e R s m args below meth c G nL (MQ below (QcG G (some (.inl v)) h) args s mc ms (AG G)) h cells slots pc lv [.inl v] := by
  intro H locs ls hH hS hL
  obtain ⟨hx, hb, hml, hown, hts, hK, hNW, hlk2, hbs⟩ := C
  refine W.widen h1 h2 ?_
  exact W.iret hx hb hr (fun t ht hW => ⟨rfl, by rw [ht]; exact hH, hS.F ht⟩) hS.2.2 d hlk2
theorem r_zret (C : Cx p s m args meth c cc own nL G) {v : Int32} {mc ms : Nat} (d : decode cc pc = .ok (.ireturn, 1)) (hr : meth.sig.returnType = some .boolean) (hv : zc v = some v) (h1 : cells ≤ mc) (h2 : slots ≤ ms) : V p l e R s m args below meth c G nL (MQ below (QcG G (some (.inl v)) h) args s mc ms (AG G)) h cells slots pc lv [.inl v] := by
  intro H locs ls hH hS hL
  obtain ⟨hx, hb, hml, hown, hts, hK, hNW, hlk2, hbs⟩ := C
  refine W.widen h1 h2 ?_
  have hn : narrow .boolean (.int v) = .int v := by
    unfold zc at hv
    split at hv
    · rename_i q; rcases q with rfl | rfl <;> rfl
    · cases hv
  exact W.zret hx hb hr hn (fun t ht hW => ⟨rfl, by rw [ht]; exact hH, hS.F ht⟩) hS.2.2 d hlk2
theorem r_vret (C : Cx p s m args meth c cc own nL G) {mc ms : Nat} (d : decode cc pc = .ok (.return_, 1)) (hr : meth.sig.returnType = none) (h1 : cells ≤ mc) (h2 : slots ≤ ms) : V p l e R s m args below meth c G nL (MQ below (QcG G none h) args s mc ms (AG G)) h cells slots pc lv [] := by
  intro H locs ls hH hS hL
  obtain ⟨hx, hb, hml, hown, hts, hK, hNW, hlk2, hbs⟩ := C
  refine W.widen h1 h2 ?_
  exact W.vret hx hb hr (fun t ht hW => ⟨rfl, by rw [ht]; exact hH, hS.F ht⟩) hS.2.2 d hlk2
theorem r_aret (C : Cx p s m args meth c cc own nL G) {o : Option Nat} {mc ms : Nat} {n : String} (d : decode cc pc = .ok (.areturn, 1)) (hr : meth.sig.returnType = some (.object n)) (h1 : cells ≤ mc) (h2 : slots ≤ ms) : V p l e R s m args below meth c G nL (MQ below (QcG G (some (.inr o)) h) args s mc ms (AG G)) h cells slots pc lv [.inr o] := by
  intro H locs ls hH hS hL
  obtain ⟨hx, hb, hml, hown, hts, hK, hNW, hlk2, hbs⟩ := C
  refine W.widen h1 h2 ?_
  exact W.aret hx hb hr (Or.inl ⟨n, rfl⟩) (by cases o with | none => exact Or.inl rfl | some a => exact Or.inr ⟨_, rfl⟩) (fun t ht hW => ⟨rfl, by rw [ht]; exact hH, hS.F ht⟩) hS.2.2 d hlk2
end Rows3
/-- a contract out of a walk -/
theorem mk_CT {l : Launch} {G : Gl} {y : MethodName} {bytes : ByteArray} {maxL : Nat} {ret : Option FieldType} {rm : Room} {av : List Wd} {h : Hs} {res : Option Wd} {h' : Hs} (hy : plainName y.cls = true) (hlen : av.length ≤ maxL)
    (body : ∀ (p : Program) (e : Env) (s : State) (m : MethodId) (args : Array Value) (below : List Frame) (meth : Method) (c : Code), Cx p s m args meth c bytes y.cls maxL G → meth.sig.returnType = ret → meth.name = y.name → V p l e rm s m args below meth c G maxL (MQ below (QcG G res h') args s rm.cells rm.slots (AG G)) h 0 0 0 (av.map some ++ List.replicate (maxL - av.length) none) []) : CT l G y bytes maxL ret rm av h res h' := by
  refine Met.ofW (cc := bytes) (maxL := maxL) (ret := ret) hy rfl ?_
  intro p e s m args below meth c s₁ B hml hv
  obtain ⟨rfl, hP, hK, hN, hbs⟩ := hv
  have hts := atoms_spec (ws := Cond.code y bytes maxL ret :: gtb) B.pre
  have hown : s.vm.findClass y.cls = some m.cls := findClass_of_methodNamed B.named
  have hin : meth.name = y.name := (name_of_methodNamed B.named B.method).1
  have hsl : (lg_sl (av.map (vl G.1))) = (av.map (vl G.1)).map Slot.val := by
    clear body hlen hml B hts
    induction av with
    | nil => rfl
    | cons a z ih =>
      have ih' : List.flatMap (fun v => if v.category = 2 then [Slot.val v, Slot.second] else [Slot.val v]) (z.map (vl G.1)) = (z.map (vl G.1)).map Slot.val := ih
      simp [lg_sl, vl_cat, ih']
  have hl := lv_entry (av.map (vl G.1)) (n := maxL) (by rw [hsl]; simpa using hlen)
  rw [lg_entry_eq]
  have hLV : LV G.1 (lg_sl (av.map (vl G.1)) ++ List.replicate (maxL - (lg_sl (av.map (vl G.1))).length) Slot.unset).toArray maxL (av.map some ++ List.replicate (maxL - av.length) none) := by
    refine ⟨hl.1, hl.2.1, fun i w hi => ?_⟩
    rw [hsl]
    by_cases hia : i < av.length
    · rw [List.getElem?_append_left (by simpa using hia)] at hi
      simp at hi
      simp [List.getElem?_append_left, hia]
      rw [(List.getElem?_eq_some_iff.mp hi).2]
    · rw [List.getElem?_append_right (by simpa using hia)] at hi
      simp [List.getElem?_replicate] at hi
  exact body p e s m _ below meth c ⟨B.exec, B.bytes, hml, hown, fun w hw => hts w (List.mem_cons_of_mem _ hw), hK, hN, B.notSynchronized, hbs⟩ B.returns hin s.heap [] _ hP va_S.rf hLV
end
section
section Rows4
variable {p : Program} {l : Launch} {e : Env} {R : Room} {s : State} {m : MethodId} {args : Array Value} {below : List Frame} {meth : Method} {c : Code} {cc : ByteArray} {own : String} {G : Gl} {nL : Nat} {Q : State → Prop} {h : Hs} {cells slots pc : Nat} {lv : List (Option Wd)} {st : List Wd}
def MW (own : String) (idx : Nat) (y : MethodName) (bytes : ByteArray) (n : Nat) : Prop := Cond.methodLink own idx y ∈ gtb ∧ Cond.static y ∈ gtb ∧ Cond.initialized "java/lang/Math" ∈ gtb ∧ Cond.code y bytes n (some .int) ∈ gtb
theorem r_mmax (C : Cx p s m args meth c cc own nL G) {idx : Nat} {x y : Int32} (d : decode cc pc = .ok (.invokestatic idx, 3)) (w : MW own idx Lib.Math.max.name Lib.Math.max.code 2) (hfr : 1 ≤ R.frames) (hlo : st.length + 13 ≤ R.locals) (hc : cells ≤ R.cells) (hs : slots ≤ R.slots) (k : V p l e R s m args below meth c G nL Q h cells slots (pc + 3) lv (.inl (if x < y then y else x) :: st)) : V p l e R s m args below meth c G nL Q h cells slots pc lv (.inl y :: .inl x :: st) := by
  intro H locs ls hH hS hL
  obtain ⟨hx, hb, hml, hown, hts, hK, hNW, hlk2, hbs⟩ := C
  exact va_mmax hx hb (by rw [hml, hL.1]) hown (hts _ w.1) (hts _ w.2.1) (hts _ w.2.2.1) (hts _ w.2.2.2) hfr (by rw [cat_sum]; exact hlo) hc hs d (k H locs ls hH hS hL)
theorem r_mmin (C : Cx p s m args meth c cc own nL G) {idx : Nat} {x y : Int32} (d : decode cc pc = .ok (.invokestatic idx, 3)) (w : MW own idx Lib.Math.min.name Lib.Math.min.code 2) (hfr : 1 ≤ R.frames) (hlo : st.length + 13 ≤ R.locals) (hc : cells ≤ R.cells) (hs : slots ≤ R.slots) (k : V p l e R s m args below meth c G nL Q h cells slots (pc + 3) lv (.inl (if y < x then y else x) :: st)) : V p l e R s m args below meth c G nL Q h cells slots pc lv (.inl y :: .inl x :: st) := by
  intro H locs ls hH hS hL
  obtain ⟨hx, hb, hml, hown, hts, hK, hNW, hlk2, hbs⟩ := C
  exact va_mmin hx hb (by rw [hml, hL.1]) hown (hts _ w.1) (hts _ w.2.1) (hts _ w.2.2.1) (hts _ w.2.2.2) hfr (by rw [cat_sum]; exact hlo) hc hs d (k H locs ls hH hS hL)
theorem r_mabs (C : Cx p s m args meth c cc own nL G) {idx : Nat} {x : Int32} (d : decode cc pc = .ok (.invokestatic idx, 3)) (w : MW own idx Lib.Math.abs.name Lib.Math.abs.code 1) (hfr : 1 ≤ R.frames) (hlo : st.length + 13 ≤ R.locals) (hc : cells ≤ R.cells) (hs : slots ≤ R.slots) (k : V p l e R s m args below meth c G nL Q h cells slots (pc + 3) lv (.inl (if 0 ≤ x then x else 0 - x) :: st)) : V p l e R s m args below meth c G nL Q h cells slots pc lv (.inl x :: st) := by
  intro H locs ls hH hS hL
  obtain ⟨hx, hb, hml, hown, hts, hK, hNW, hlk2, hbs⟩ := C
  exact va_mabs hx hb (by rw [hml, hL.1]) hown (hts _ w.1) (hts _ w.2.1) (hts _ w.2.2.1) (hts _ w.2.2.2) hfr (by rw [cat_sum]; first | exact hlo | omega) hc hs d (k H locs ls hH hS hL)
def CW (own : String) (idx : Nat) : Prop := Cond.methodLink own idx arraycopyName ∈ gtb ∧ Cond.native arraycopyName ∈ gtb ∧ Cond.static arraycopyName ∈ gtb ∧ Cond.initialized "java/lang/System" ∈ gtb
theorem r_copy (C : Cx p s m args meth c cc own nL G) {idx : Nat} {o o2 : Option Nat} {sp dp n : Int32} {h' : Hs} (d : decode cc pc = .ok (.invokestatic idx, 3)) (w : CW own idx) (hfr : 1 ≤ R.frames) (hlo : st.length + (nativeFrameWords "java/lang/System" "arraycopy" 5 + 11) ≤ R.locals) (eq : cpA h o sp o2 dp n = some h') (k : V p l e R s m args below meth c G nL Q h' cells slots (pc + 3) lv st) : V p l e R s m args below meth c G nL Q h cells slots pc lv (.inl n :: .inl dp :: .inr o2 :: .inl sp :: .inr o :: st) := by
  cases o with
  | none => cases o2 <;> cases eq
  | some a =>
    cases o2 with
    | none => cases eq
    | some q =>
      unfold cpA at eq
      simp only at eq
      split at eq
      · rename_i hs
        obtain ⟨ha, hq, h1, h2, h3, h4, h5⟩ := hs
        cases eq
        intro H locs ls hH hS hL
        obtain ⟨hx, hb, hml, hown, hts, hK, hNW, hlk2, hbs⟩ := C
        have hal := hH.lt ha (by omega)
        have hql := hH.lt hq (by omega)
        have eA := hH.arrAt (t := 0) ha (by omega)
        have eQ := hH.arrAt (t := 0) hq (by omega)
        obtain ⟨-, k0, hk0, cm0, hkk0⟩ := (hK.2 0 _ rfl).1 (sh h a).2 (fun j => .int (aI h a j))
        have nn : ∀ z : Int32, ¬ z < 0 → z.toInt = (z.toNatClampNeg : Int) := fun z hz => by
          have h9 : (0 : Int) ≤ z.toInt := by simpa using Int32.le_iff_toInt_le.mp (Int32.not_lt.mp hz)
          show z.toInt = ((z.toInt.toNat : Nat) : Int)
          omega
        intro T hT X
        obtain ⟨vm', X', step⟩ := X.arraycopy hx hown (hts _ w.1) (hts _ w.2.1) (hts _ w.2.2.1) (hts _ w.2.2.2) (src := G.1 + a) (dst := G.1 + q) (cs := arrV (G.2.2 0) (sh h a).2 (fun j => .int (aI h a j))) (cd := arrV (G.2.2 0) (sh h q).2 (fun j => .int (aI h q j))) (srcPos := sp) (destPos := dp) (n := n) (by rw [hT]; exact eA) (by rw [hT]; exact eQ)
          (fun _ h => by cases h) (fun _ h => by cases h) (fun h => by cases h) (fun h => by cases h) hk0 hk0 hkk0 hkk0 (by rfl) h1 h2 h3
          (by rw [nn sp h1, nn n h3, arrV_size]; omega)
          (by rw [nn dp h2, nn n h3, arrV_size]; omega)
          (fun vm₁ _ i hi => by
            have e9 : (arrV (G.2.2 0) (sh h a).2 (fun j => .int (aI h a j))).slots.getD (sp.toNatClampNeg + i) .null = .int (aI h a (sp.toNatClampNeg + i)) := by
              rw [Array.getD_eq_getD_getElem?, arrV_read _ _ (by omega)]
              rfl
            rw [e9]
            exact ⟨rfl, trivial⟩)
          (g := F0 m pc ls ((.inl n :: .inl dp :: .inr (some q) :: .inl sp :: .inr (some a) :: st).map (vl G.1))) rfl (by rw [hml]; exact hL.1) (rest := st.map (vl G.1)) rfl (by rw [hb]; exact d) hfr (by show 2 * 0 + _ + _ ≤ _; rw [cat_sum]; omega)
        have e1 : copied (arrV (G.2.2 0) (sh h a).2 (fun j => .int (aI h a j))) (arrV (G.2.2 0) (sh h q).2 (fun j => .int (aI h q j))) sp dp n = arrV (G.2.2 0) (sh h q).2 (fun j => .int (va_cpy (aI h a) (aI h q) sp.toNatClampNeg dp.toNatClampNeg n.toNatClampNeg j)) := va_copied (fun z => .int z) (G.2.2 0) (G.2.2 0) (aI h a) (aI h q) h4
        rw [e1] at X' step
        have hlt : G.1 + q < H.size := by rw [hH.2.1]; omega
        generalize hc9 : arrV (G.2.2 0) (sh h q).2 (fun j => Value.int (va_cpy (aI h a) (aI h q) sp.toNatClampNeg dp.toNatClampNeg n.toNatClampNeg j)) = nc at X' step
        have oq : ∀ z : Nat, z ≠ G.1 + q → (H.setIfInBounds (G.1 + q) nc)[z]? = H[z]? := fun z hz => by simp [Array.getElem?_setIfInBounds, Ne.symm hz]
        have hz : (H.setIfInBounds (G.1 + q) nc).size = H.size := by simp
        have hat : (H.setIfInBounds (G.1 + q) nc)[G.1 + q]? = some nc := by simp [Array.getElem?_setIfInBounds, hlt]
        have hS' : va_S (AG G) s.heap (H.setIfInBounds (G.1 + q) nc) (locs ++ ((arrV (G.2.2 0) (sh h a).2 (fun j => .int (aI h a j))).stretch sp.toNatClampNeg n.toNatClampNeg).zipIdx.map fun z => ⟨G.1 + q, dp.toNatClampNeg + z.2⟩) := by
          refine ⟨by rw [hz]; exact hS.1, fun z g1 g2 => ?_, fun z hz2 => ?_⟩
          · rw [oq z (fun e9 => g2 (by rw [e9]; exact Nat.le_add_right _ _))]
            exact hS.2.1 z g1 g2
          · rcases List.mem_append.mp hz2 with h9 | h9
            · exact hS.2.2 z h9
            · obtain ⟨u, -, hu⟩ := List.mem_map.mp h9
              rw [← hu]
              exact Nat.le_add_right _ _
        obtain ⟨t, a1, b1⟩ := k _ _ ls (hH.put (h' := (h.1, h.2.1, (fun a' j' => if a' = q then va_cpy (aI h a) (aI h q) sp.toNatClampNeg dp.toNatClampNeg n.toNatClampNeg j' else h.2.2.1 a' j'), h.2.2.2)) hql rfl (fun _ => rfl) (fun k hk => ce_congr rfl (fun _ => rfl) (fun _ => rfl) (by funext j; simp [aI, hk]) rfl) (by
            rw [ce_int (h := (h.1, h.2.1, (fun a' j' => if a' = q then va_cpy (aI h a) (aI h q) sp.toNatClampNeg dp.toNatClampNeg n.toNatClampNeg j' else h.2.2.1 a' j'), h.2.2.2)) (t := 0) hq (by omega)]
            show (H.setIfInBounds (G.1 + q) nc)[G.1 + q]? = some (vp_cell _ _)
            rw [hat, ← hc9, vp_cell_i]
            simp [sh, aI]) oq hz) hS' hL _ (by rw [← hT]; rfl) X'
        exact ⟨t, step t a1, b1⟩
      · cases eq
end Rows4
end
