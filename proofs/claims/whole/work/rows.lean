section
-- ===== PART A: goes FIRST, ahead of the names: the tables' words, and 'selects' of the private methods out of them =====
/-- a private method of a class that the tables say can be made, by its rows of tables_1 -/
def lw_okq (q : MethodName × Nat) : Prop := (q.1.cls ≠ "java/lang/invoke/MethodHandle" ∧ q.1.cls ≠ "java/lang/invoke/VarHandle") ∧ Cond.instantiable q.1.cls q.2 ∈ tables_1 ∧ Cond.privateMethod q.1 ∈ tables_1 ∧ Cond.instanceMethod q.1 ∈ tables_1
theorem lw_p0 : lw_okq (⟨"StageMachine", "deed", "(IZ)I"⟩, 7) := ⟨⟨by decide +kernel, by decide +kernel⟩, List.mem_of_getElem? (i := 19) (by decide +kernel), List.mem_of_getElem? (i := 365) (by decide +kernel), List.mem_of_getElem? (i := 366) (by decide +kernel)⟩
theorem lw_p1 : lw_okq (⟨"StageMachine$Turning", "isBeyond", "()Z"⟩, 3) := ⟨⟨by decide +kernel, by decide +kernel⟩, List.mem_of_getElem? (i := 191) (by decide +kernel), List.mem_of_getElem? (i := 607) (by decide +kernel), List.mem_of_getElem? (i := 608) (by decide +kernel)⟩
theorem lw_p2 : lw_okq (⟨"StageMachine$Turning", "isMeeting", "()Z"⟩, 3) := ⟨⟨by decide +kernel, by decide +kernel⟩, List.mem_of_getElem? (i := 191) (by decide +kernel), List.mem_of_getElem? (i := 612) (by decide +kernel), List.mem_of_getElem? (i := 613) (by decide +kernel)⟩
theorem lw_p3 : lw_okq (⟨"StageMachine$Turning", "isUneven", "(I)Z"⟩, 3) := ⟨⟨by decide +kernel, by decide +kernel⟩, List.mem_of_getElem? (i := 191) (by decide +kernel), List.mem_of_getElem? (i := 622) (by decide +kernel), List.mem_of_getElem? (i := 623) (by decide +kernel)⟩
theorem lw_p4 : lw_okq (⟨"StageMachine$Turning", "stepsToNextMove", "(II)I"⟩, 3) := ⟨⟨by decide +kernel, by decide +kernel⟩, List.mem_of_getElem? (i := 191) (by decide +kernel), List.mem_of_getElem? (i := 626) (by decide +kernel), List.mem_of_getElem? (i := 627) (by decide +kernel)⟩
theorem lw_p5 : lw_okq (⟨"StageMachine$Stage", "fall", "(LStageMachine$Thing;II)I"⟩, 15) := ⟨⟨by decide +kernel, by decide +kernel⟩, List.mem_of_getElem? (i := 116) (by decide +kernel), List.mem_of_getElem? (i := 672) (by decide +kernel), List.mem_of_getElem? (i := 673) (by decide +kernel)⟩
theorem lw_p6 : lw_okq (⟨"StageMachine$Stage", "canFall", "(LStageMachine$Thing;I)Z"⟩, 15) := ⟨⟨by decide +kernel, by decide +kernel⟩, List.mem_of_getElem? (i := 116) (by decide +kernel), List.mem_of_getElem? (i := 676) (by decide +kernel), List.mem_of_getElem? (i := 677) (by decide +kernel)⟩
theorem lw_p7 : lw_okq (⟨"StageMachine$Stage", "isCatch", "(II)Z"⟩, 15) := ⟨⟨by decide +kernel, by decide +kernel⟩, List.mem_of_getElem? (i := 116) (by decide +kernel), List.mem_of_getElem? (i := 680) (by decide +kernel), List.mem_of_getElem? (i := 681) (by decide +kernel)⟩
theorem lw_p8 : lw_okq (⟨"StageMachine$Change", "findTie", "(LStageMachine$Thing;II)Z"⟩, 9) := ⟨⟨by decide +kernel, by decide +kernel⟩, List.mem_of_getElem? (i := 227) (by decide +kernel), List.mem_of_getElem? (i := 712) (by decide +kernel), List.mem_of_getElem? (i := 713) (by decide +kernel)⟩
theorem lw_p9 : lw_okq (⟨"StageMachine$Change", "findDrum", "(LStageMachine$Rope;II)I"⟩, 9) := ⟨⟨by decide +kernel, by decide +kernel⟩, List.mem_of_getElem? (i := 227) (by decide +kernel), List.mem_of_getElem? (i := 717) (by decide +kernel), List.mem_of_getElem? (i := 718) (by decide +kernel)⟩
theorem lw_p10 : lw_okq (⟨"StageMachine$Change", "countWorks", "()V"⟩, 9) := ⟨⟨by decide +kernel, by decide +kernel⟩, List.mem_of_getElem? (i := 227) (by decide +kernel), List.mem_of_getElem? (i := 722) (by decide +kernel), List.mem_of_getElem? (i := 723) (by decide +kernel)⟩
theorem lw_p11 : lw_okq (⟨"StageMachine$Change", "isReady", "(LStageMachine$Rope;I)Z"⟩, 9) := ⟨⟨by decide +kernel, by decide +kernel⟩, List.mem_of_getElem? (i := 227) (by decide +kernel), List.mem_of_getElem? (i := 726) (by decide +kernel), List.mem_of_getElem? (i := 727) (by decide +kernel)⟩
theorem lw_p12 : lw_okq (⟨"StageMachine$Change", "works", "()I"⟩, 9) := ⟨⟨by decide +kernel, by decide +kernel⟩, List.mem_of_getElem? (i := 227) (by decide +kernel), List.mem_of_getElem? (i := 747) (by decide +kernel), List.mem_of_getElem? (i := 748) (by decide +kernel)⟩
theorem lw_p13 : lw_okq (⟨"StageMachine$Change", "longestWork", "()I"⟩, 9) := ⟨⟨by decide +kernel, by decide +kernel⟩, List.mem_of_getElem? (i := 227) (by decide +kernel), List.mem_of_getElem? (i := 759) (by decide +kernel), List.mem_of_getElem? (i := 760) (by decide +kernel)⟩
theorem lw_p14 : lw_okq (⟨"StageMachine$Change", "shareOut", "(I)I"⟩, 9) := ⟨⟨by decide +kernel, by decide +kernel⟩, List.mem_of_getElem? (i := 227) (by decide +kernel), List.mem_of_getElem? (i := 763) (by decide +kernel), List.mem_of_getElem? (i := 764) (by decide +kernel)⟩
theorem lw_p15 : lw_okq (⟨"StageMachine$Change", "leastShare", "(IIII)I"⟩, 9) := ⟨⟨by decide +kernel, by decide +kernel⟩, List.mem_of_getElem? (i := 227) (by decide +kernel), List.mem_of_getElem? (i := 767) (by decide +kernel), List.mem_of_getElem? (i := 768) (by decide +kernel)⟩
def lw_privs_1 : List (MethodName × Nat) := [(⟨"StageMachine", "deed", "(IZ)I"⟩, 7), (⟨"StageMachine$Turning", "isBeyond", "()Z"⟩, 3), (⟨"StageMachine$Turning", "isMeeting", "()Z"⟩, 3), (⟨"StageMachine$Turning", "isUneven", "(I)Z"⟩, 3), (⟨"StageMachine$Turning", "stepsToNextMove", "(II)I"⟩, 3), (⟨"StageMachine$Stage", "fall", "(LStageMachine$Thing;II)I"⟩, 15), (⟨"StageMachine$Stage", "canFall", "(LStageMachine$Thing;I)Z"⟩, 15), (⟨"StageMachine$Stage", "isCatch", "(II)Z"⟩, 15), (⟨"StageMachine$Change", "findTie", "(LStageMachine$Thing;II)Z"⟩, 9), (⟨"StageMachine$Change", "findDrum", "(LStageMachine$Rope;II)I"⟩, 9), (⟨"StageMachine$Change", "countWorks", "()V"⟩, 9), (⟨"StageMachine$Change", "isReady", "(LStageMachine$Rope;I)Z"⟩, 9), (⟨"StageMachine$Change", "works", "()I"⟩, 9), (⟨"StageMachine$Change", "longestWork", "()I"⟩, 9), (⟨"StageMachine$Change", "shareOut", "(I)I"⟩, 9), (⟨"StageMachine$Change", "leastShare", "(IIII)I"⟩, 9)]
theorem lw_r1 : ∀ q ∈ lw_privs_1, lw_okq q := List.forall_mem_cons.mpr ⟨lw_p0, List.forall_mem_cons.mpr ⟨lw_p1, List.forall_mem_cons.mpr ⟨lw_p2, List.forall_mem_cons.mpr ⟨lw_p3, List.forall_mem_cons.mpr ⟨lw_p4, List.forall_mem_cons.mpr ⟨lw_p5, List.forall_mem_cons.mpr ⟨lw_p6, List.forall_mem_cons.mpr ⟨lw_p7, List.forall_mem_cons.mpr ⟨lw_p8, List.forall_mem_cons.mpr ⟨lw_p9, List.forall_mem_cons.mpr ⟨lw_p10, List.forall_mem_cons.mpr ⟨lw_p11, List.forall_mem_cons.mpr ⟨lw_p12, List.forall_mem_cons.mpr ⟨lw_p13, List.forall_mem_cons.mpr ⟨lw_p14, List.forall_mem_cons.mpr ⟨lw_p15, fun _ h => absurd h List.not_mem_nil⟩⟩⟩⟩⟩⟩⟩⟩⟩⟩⟩⟩⟩⟩⟩⟩
theorem lw_p16 : lw_okq (⟨"StageMachine$Change", "slot", "(III)I"⟩, 9) := ⟨⟨by decide +kernel, by decide +kernel⟩, List.mem_of_getElem? (i := 227) (by decide +kernel), List.mem_of_getElem? (i := 771) (by decide +kernel), List.mem_of_getElem? (i := 772) (by decide +kernel)⟩
theorem lw_p17 : lw_okq (⟨"StageMachine$Change", "withWork", "(III)I"⟩, 9) := ⟨⟨by decide +kernel, by decide +kernel⟩, List.mem_of_getElem? (i := 227) (by decide +kernel), List.mem_of_getElem? (i := 775) (by decide +kernel), List.mem_of_getElem? (i := 776) (by decide +kernel)⟩
theorem lw_p18 : lw_okq (⟨"StageMachine$Tape", "readLine", "(I)Z"⟩, 8) := ⟨⟨by decide +kernel, by decide +kernel⟩, List.mem_of_getElem? (i := 27) (by decide +kernel), List.mem_of_getElem? (i := 798) (by decide +kernel), List.mem_of_getElem? (i := 799) (by decide +kernel)⟩
theorem lw_p19 : lw_okq (⟨"StageMachine$Tape", "peek", "()I"⟩, 8) := ⟨⟨by decide +kernel, by decide +kernel⟩, List.mem_of_getElem? (i := 27) (by decide +kernel), List.mem_of_getElem? (i := 802) (by decide +kernel), List.mem_of_getElem? (i := 803) (by decide +kernel)⟩
theorem lw_p20 : lw_okq (⟨"StageMachine$Tape", "readTwo", "(IZ)Z"⟩, 8) := ⟨⟨by decide +kernel, by decide +kernel⟩, List.mem_of_getElem? (i := 27) (by decide +kernel), List.mem_of_getElem? (i := 806) (by decide +kernel), List.mem_of_getElem? (i := 807) (by decide +kernel)⟩
theorem lw_p21 : lw_okq (⟨"StageMachine$Tape", "readNumber", "(Z)Z"⟩, 8) := ⟨⟨by decide +kernel, by decide +kernel⟩, List.mem_of_getElem? (i := 27) (by decide +kernel), List.mem_of_getElem? (i := 810) (by decide +kernel), List.mem_of_getElem? (i := 811) (by decide +kernel)⟩
theorem lw_p22 : lw_okq (⟨"StageMachine$Tape", "readSign", "(I)Z"⟩, 8) := ⟨⟨by decide +kernel, by decide +kernel⟩, List.mem_of_getElem? (i := 27) (by decide +kernel), List.mem_of_getElem? (i := 814) (by decide +kernel), List.mem_of_getElem? (i := 815) (by decide +kernel)⟩
theorem lw_p23 : lw_okq (⟨"StageMachine$Tape", "readOne", "(IZ)Z"⟩, 8) := ⟨⟨by decide +kernel, by decide +kernel⟩, List.mem_of_getElem? (i := 27) (by decide +kernel), List.mem_of_getElem? (i := 818) (by decide +kernel), List.mem_of_getElem? (i := 819) (by decide +kernel)⟩
theorem lw_p24 : lw_okq (⟨"StageMachine", "playLine", "(I)I"⟩, 7) := ⟨⟨by decide +kernel, by decide +kernel⟩, List.mem_of_getElem? (i := 19) (by decide +kernel), List.mem_of_getElem? (i := 829) (by decide +kernel), List.mem_of_getElem? (i := 830) (by decide +kernel)⟩
theorem lw_p25 : lw_okq (⟨"StageMachine$Candles", "burning", "()I"⟩, 4) := ⟨⟨by decide +kernel, by decide +kernel⟩, List.mem_of_getElem? (i := 64) (by decide +kernel), List.mem_of_getElem? (i := 875) (by decide +kernel), List.mem_of_getElem? (i := 876) (by decide +kernel)⟩
theorem lw_p26 : lw_okq (⟨"StageMachine$Candles", "leastLeft", "()I"⟩, 4) := ⟨⟨by decide +kernel, by decide +kernel⟩, List.mem_of_getElem? (i := 64) (by decide +kernel), List.mem_of_getElem? (i := 879) (by decide +kernel), List.mem_of_getElem? (i := 880) (by decide +kernel)⟩
theorem lw_p27 : lw_okq (⟨"StageMachine$Stock", "leastSum", "()I"⟩, 7) := ⟨⟨by decide +kernel, by decide +kernel⟩, List.mem_of_getElem? (i := 85) (by decide +kernel), List.mem_of_getElem? (i := 927) (by decide +kernel), List.mem_of_getElem? (i := 928) (by decide +kernel)⟩
theorem lw_p28 : lw_okq (⟨"StageMachine$Stock", "leastSumBehind", "(ILStageMachine$Panel;)I"⟩, 7) := ⟨⟨by decide +kernel, by decide +kernel⟩, List.mem_of_getElem? (i := 85) (by decide +kernel), List.mem_of_getElem? (i := 937) (by decide +kernel), List.mem_of_getElem? (i := 938) (by decide +kernel)⟩
theorem lw_p29 : lw_okq (⟨"StageMachine$Stock", "sumWith", "(IILStageMachine$Panel;)I"⟩, 7) := ⟨⟨by decide +kernel, by decide +kernel⟩, List.mem_of_getElem? (i := 85) (by decide +kernel), List.mem_of_getElem? (i := 941) (by decide +kernel), List.mem_of_getElem? (i := 942) (by decide +kernel)⟩
theorem lw_p30 : lw_okq (⟨"StageMachine$Stock", "give", "()V"⟩, 7) := ⟨⟨by decide +kernel, by decide +kernel⟩, List.mem_of_getElem? (i := 85) (by decide +kernel), List.mem_of_getElem? (i := 958) (by decide +kernel), List.mem_of_getElem? (i := 959) (by decide +kernel)⟩
theorem lw_p31 : lw_okq (⟨"StageMachineModel", "isThing", "(I)Z"⟩, 65) := ⟨⟨by decide +kernel, by decide +kernel⟩, List.mem_of_getElem? (i := 978) (by decide +kernel), List.mem_of_getElem? (i := 1193) (by decide +kernel), List.mem_of_getElem? (i := 1194) (by decide +kernel)⟩
def lw_privs_2 : List (MethodName × Nat) := [(⟨"StageMachine$Change", "slot", "(III)I"⟩, 9), (⟨"StageMachine$Change", "withWork", "(III)I"⟩, 9), (⟨"StageMachine$Tape", "readLine", "(I)Z"⟩, 8), (⟨"StageMachine$Tape", "peek", "()I"⟩, 8), (⟨"StageMachine$Tape", "readTwo", "(IZ)Z"⟩, 8), (⟨"StageMachine$Tape", "readNumber", "(Z)Z"⟩, 8), (⟨"StageMachine$Tape", "readSign", "(I)Z"⟩, 8), (⟨"StageMachine$Tape", "readOne", "(IZ)Z"⟩, 8), (⟨"StageMachine", "playLine", "(I)I"⟩, 7), (⟨"StageMachine$Candles", "burning", "()I"⟩, 4), (⟨"StageMachine$Candles", "leastLeft", "()I"⟩, 4), (⟨"StageMachine$Stock", "leastSum", "()I"⟩, 7), (⟨"StageMachine$Stock", "leastSumBehind", "(ILStageMachine$Panel;)I"⟩, 7), (⟨"StageMachine$Stock", "sumWith", "(IILStageMachine$Panel;)I"⟩, 7), (⟨"StageMachine$Stock", "give", "()V"⟩, 7), (⟨"StageMachineModel", "isThing", "(I)Z"⟩, 65)]
theorem lw_r2 : ∀ q ∈ lw_privs_2, lw_okq q := List.forall_mem_cons.mpr ⟨lw_p16, List.forall_mem_cons.mpr ⟨lw_p17, List.forall_mem_cons.mpr ⟨lw_p18, List.forall_mem_cons.mpr ⟨lw_p19, List.forall_mem_cons.mpr ⟨lw_p20, List.forall_mem_cons.mpr ⟨lw_p21, List.forall_mem_cons.mpr ⟨lw_p22, List.forall_mem_cons.mpr ⟨lw_p23, List.forall_mem_cons.mpr ⟨lw_p24, List.forall_mem_cons.mpr ⟨lw_p25, List.forall_mem_cons.mpr ⟨lw_p26, List.forall_mem_cons.mpr ⟨lw_p27, List.forall_mem_cons.mpr ⟨lw_p28, List.forall_mem_cons.mpr ⟨lw_p29, List.forall_mem_cons.mpr ⟨lw_p30, List.forall_mem_cons.mpr ⟨lw_p31, fun _ h => absurd h List.not_mem_nil⟩⟩⟩⟩⟩⟩⟩⟩⟩⟩⟩⟩⟩⟩⟩⟩
theorem lw_p32 : lw_okq (⟨"StageMachineModel", "tiedTo", "(I)I"⟩, 65) := ⟨⟨by decide +kernel, by decide +kernel⟩, List.mem_of_getElem? (i := 978) (by decide +kernel), List.mem_of_getElem? (i := 1197) (by decide +kernel), List.mem_of_getElem? (i := 1198) (by decide +kernel)⟩
theorem lw_p33 : lw_okq (⟨"StageMachineModel", "isRope", "(I)Z"⟩, 65) := ⟨⟨by decide +kernel, by decide +kernel⟩, List.mem_of_getElem? (i := 978) (by decide +kernel), List.mem_of_getElem? (i := 1217) (by decide +kernel), List.mem_of_getElem? (i := 1218) (by decide +kernel)⟩
theorem lw_p34 : lw_okq (⟨"StageMachineModel", "load", "(I)I"⟩, 65) := ⟨⟨by decide +kernel, by decide +kernel⟩, List.mem_of_getElem? (i := 978) (by decide +kernel), List.mem_of_getElem? (i := 1222) (by decide +kernel), List.mem_of_getElem? (i := 1223) (by decide +kernel)⟩
theorem lw_p35 : lw_okq (⟨"StageMachineModel", "tieNow", "(II)I"⟩, 65) := ⟨⟨by decide +kernel, by decide +kernel⟩, List.mem_of_getElem? (i := 978) (by decide +kernel), List.mem_of_getElem? (i := 1230) (by decide +kernel), List.mem_of_getElem? (i := 1231) (by decide +kernel)⟩
theorem lw_p36 : lw_okq (⟨"StageMachineModel", "isDrum", "(I)Z"⟩, 65) := ⟨⟨by decide +kernel, by decide +kernel⟩, List.mem_of_getElem? (i := 978) (by decide +kernel), List.mem_of_getElem? (i := 1234) (by decide +kernel), List.mem_of_getElem? (i := 1235) (by decide +kernel)⟩
theorem lw_p37 : lw_okq (⟨"StageMachineModel", "untieNow", "(I)I"⟩, 65) := ⟨⟨by decide +kernel, by decide +kernel⟩, List.mem_of_getElem? (i := 978) (by decide +kernel), List.mem_of_getElem? (i := 1242) (by decide +kernel), List.mem_of_getElem? (i := 1243) (by decide +kernel)⟩
theorem lw_p38 : lw_okq (⟨"StageMachineModel", "weighNow", "(II)I"⟩, 65) := ⟨⟨by decide +kernel, by decide +kernel⟩, List.mem_of_getElem? (i := 978) (by decide +kernel), List.mem_of_getElem? (i := 1250) (by decide +kernel), List.mem_of_getElem? (i := 1251) (by decide +kernel)⟩
theorem lw_p39 : lw_okq (⟨"StageMachineModel", "turnNow", "(I)I"⟩, 65) := ⟨⟨by decide +kernel, by decide +kernel⟩, List.mem_of_getElem? (i := 978) (by decide +kernel), List.mem_of_getElem? (i := 1269) (by decide +kernel), List.mem_of_getElem? (i := 1270) (by decide +kernel)⟩
theorem lw_p40 : lw_okq (⟨"StageMachineModel", "place", "(I)V"⟩, 65) := ⟨⟨by decide +kernel, by decide +kernel⟩, List.mem_of_getElem? (i := 978) (by decide +kernel), List.mem_of_getElem? (i := 1273) (by decide +kernel), List.mem_of_getElem? (i := 1274) (by decide +kernel)⟩
theorem lw_p41 : lw_okq (⟨"StageMachineModel", "find", "()V"⟩, 65) := ⟨⟨by decide +kernel, by decide +kernel⟩, List.mem_of_getElem? (i := 978) (by decide +kernel), List.mem_of_getElem? (i := 1277) (by decide +kernel), List.mem_of_getElem? (i := 1278) (by decide +kernel)⟩
theorem lw_p42 : lw_okq (⟨"StageMachineModel", "other", "(II)I"⟩, 65) := ⟨⟨by decide +kernel, by decide +kernel⟩, List.mem_of_getElem? (i := 978) (by decide +kernel), List.mem_of_getElem? (i := 1281) (by decide +kernel), List.mem_of_getElem? (i := 1282) (by decide +kernel)⟩
theorem lw_p43 : lw_okq (⟨"StageMachineModel", "meets", "(III)Z"⟩, 65) := ⟨⟨by decide +kernel, by decide +kernel⟩, List.mem_of_getElem? (i := 978) (by decide +kernel), List.mem_of_getElem? (i := 1285) (by decide +kernel), List.mem_of_getElem? (i := 1286) (by decide +kernel)⟩
theorem lw_p44 : lw_okq (⟨"StageMachineModel", "isCaught", "(II)Z"⟩, 65) := ⟨⟨by decide +kernel, by decide +kernel⟩, List.mem_of_getElem? (i := 978) (by decide +kernel), List.mem_of_getElem? (i := 1302) (by decide +kernel), List.mem_of_getElem? (i := 1303) (by decide +kernel)⟩
theorem lw_p45 : lw_okq (⟨"StageMachineModel", "brings", "(III)Z"⟩, 65) := ⟨⟨by decide +kernel, by decide +kernel⟩, List.mem_of_getElem? (i := 978) (by decide +kernel), List.mem_of_getElem? (i := 1318) (by decide +kernel), List.mem_of_getElem? (i := 1319) (by decide +kernel)⟩
theorem lw_p46 : lw_okq (⟨"StageMachineModel", "workOf", "(I)I"⟩, 65) := ⟨⟨by decide +kernel, by decide +kernel⟩, List.mem_of_getElem? (i := 978) (by decide +kernel), List.mem_of_getElem? (i := 1322) (by decide +kernel), List.mem_of_getElem? (i := 1323) (by decide +kernel)⟩
theorem lw_p47 : lw_okq (⟨"StageMachineModel", "menFor", "(IIII)I"⟩, 65) := ⟨⟨by decide +kernel, by decide +kernel⟩, List.mem_of_getElem? (i := 978) (by decide +kernel), List.mem_of_getElem? (i := 1338) (by decide +kernel), List.mem_of_getElem? (i := 1339) (by decide +kernel)⟩
def lw_privs_3 : List (MethodName × Nat) := [(⟨"StageMachineModel", "tiedTo", "(I)I"⟩, 65), (⟨"StageMachineModel", "isRope", "(I)Z"⟩, 65), (⟨"StageMachineModel", "load", "(I)I"⟩, 65), (⟨"StageMachineModel", "tieNow", "(II)I"⟩, 65), (⟨"StageMachineModel", "isDrum", "(I)Z"⟩, 65), (⟨"StageMachineModel", "untieNow", "(I)I"⟩, 65), (⟨"StageMachineModel", "weighNow", "(II)I"⟩, 65), (⟨"StageMachineModel", "turnNow", "(I)I"⟩, 65), (⟨"StageMachineModel", "place", "(I)V"⟩, 65), (⟨"StageMachineModel", "find", "()V"⟩, 65), (⟨"StageMachineModel", "other", "(II)I"⟩, 65), (⟨"StageMachineModel", "meets", "(III)Z"⟩, 65), (⟨"StageMachineModel", "isCaught", "(II)Z"⟩, 65), (⟨"StageMachineModel", "brings", "(III)Z"⟩, 65), (⟨"StageMachineModel", "workOf", "(I)I"⟩, 65), (⟨"StageMachineModel", "menFor", "(IIII)I"⟩, 65)]
theorem lw_r3 : ∀ q ∈ lw_privs_3, lw_okq q := List.forall_mem_cons.mpr ⟨lw_p32, List.forall_mem_cons.mpr ⟨lw_p33, List.forall_mem_cons.mpr ⟨lw_p34, List.forall_mem_cons.mpr ⟨lw_p35, List.forall_mem_cons.mpr ⟨lw_p36, List.forall_mem_cons.mpr ⟨lw_p37, List.forall_mem_cons.mpr ⟨lw_p38, List.forall_mem_cons.mpr ⟨lw_p39, List.forall_mem_cons.mpr ⟨lw_p40, List.forall_mem_cons.mpr ⟨lw_p41, List.forall_mem_cons.mpr ⟨lw_p42, List.forall_mem_cons.mpr ⟨lw_p43, List.forall_mem_cons.mpr ⟨lw_p44, List.forall_mem_cons.mpr ⟨lw_p45, List.forall_mem_cons.mpr ⟨lw_p46, List.forall_mem_cons.mpr ⟨lw_p47, fun _ h => absurd h List.not_mem_nil⟩⟩⟩⟩⟩⟩⟩⟩⟩⟩⟩⟩⟩⟩⟩⟩
theorem lw_p48 : lw_okq (⟨"StageMachineModel", "line", "()Z"⟩, 65) := ⟨⟨by decide +kernel, by decide +kernel⟩, List.mem_of_getElem? (i := 978) (by decide +kernel), List.mem_of_getElem? (i := 1350) (by decide +kernel), List.mem_of_getElem? (i := 1351) (by decide +kernel)⟩
theorem lw_p49 : lw_okq (⟨"StageMachineModel", "look", "()I"⟩, 65) := ⟨⟨by decide +kernel, by decide +kernel⟩, List.mem_of_getElem? (i := 978) (by decide +kernel), List.mem_of_getElem? (i := 1354) (by decide +kernel), List.mem_of_getElem? (i := 1355) (by decide +kernel)⟩
theorem lw_p50 : lw_okq (⟨"StageMachineModel", "takes", "(Z)Z"⟩, 65) := ⟨⟨by decide +kernel, by decide +kernel⟩, List.mem_of_getElem? (i := 978) (by decide +kernel), List.mem_of_getElem? (i := 1358) (by decide +kernel), List.mem_of_getElem? (i := 1359) (by decide +kernel)⟩
theorem lw_p51 : lw_okq (⟨"StageMachineModel", "keep", "()V"⟩, 65) := ⟨⟨by decide +kernel, by decide +kernel⟩, List.mem_of_getElem? (i := 978) (by decide +kernel), List.mem_of_getElem? (i := 1362) (by decide +kernel), List.mem_of_getElem? (i := 1363) (by decide +kernel)⟩
theorem lw_p52 : lw_okq (⟨"StageMachineModel", "left", "(I)I"⟩, 65) := ⟨⟨by decide +kernel, by decide +kernel⟩, List.mem_of_getElem? (i := 978) (by decide +kernel), List.mem_of_getElem? (i := 1382) (by decide +kernel), List.mem_of_getElem? (i := 1383) (by decide +kernel)⟩
theorem lw_p53 : lw_okq (⟨"StageMachineModel", "cost", "(II)I"⟩, 65) := ⟨⟨by decide +kernel, by decide +kernel⟩, List.mem_of_getElem? (i := 978) (by decide +kernel), List.mem_of_getElem? (i := 1405) (by decide +kernel), List.mem_of_getElem? (i := 1406) (by decide +kernel)⟩
theorem lw_p54 : lw_okq (⟨"StageMachineModel", "isTaken", "(I)Z"⟩, 65) := ⟨⟨by decide +kernel, by decide +kernel⟩, List.mem_of_getElem? (i := 978) (by decide +kernel), List.mem_of_getElem? (i := 1412) (by decide +kernel), List.mem_of_getElem? (i := 1413) (by decide +kernel)⟩
theorem lw_p55 : lw_okq (⟨"StageMachineModel", "costTo", "(I)I"⟩, 65) := ⟨⟨by decide +kernel, by decide +kernel⟩, List.mem_of_getElem? (i := 978) (by decide +kernel), List.mem_of_getElem? (i := 1416) (by decide +kernel), List.mem_of_getElem? (i := 1417) (by decide +kernel)⟩
def lw_privs_4 : List (MethodName × Nat) := [(⟨"StageMachineModel", "line", "()Z"⟩, 65), (⟨"StageMachineModel", "look", "()I"⟩, 65), (⟨"StageMachineModel", "takes", "(Z)Z"⟩, 65), (⟨"StageMachineModel", "keep", "()V"⟩, 65), (⟨"StageMachineModel", "left", "(I)I"⟩, 65), (⟨"StageMachineModel", "cost", "(II)I"⟩, 65), (⟨"StageMachineModel", "isTaken", "(I)Z"⟩, 65), (⟨"StageMachineModel", "costTo", "(I)I"⟩, 65)]
theorem lw_r4 : ∀ q ∈ lw_privs_4, lw_okq q := List.forall_mem_cons.mpr ⟨lw_p48, List.forall_mem_cons.mpr ⟨lw_p49, List.forall_mem_cons.mpr ⟨lw_p50, List.forall_mem_cons.mpr ⟨lw_p51, List.forall_mem_cons.mpr ⟨lw_p52, List.forall_mem_cons.mpr ⟨lw_p53, List.forall_mem_cons.mpr ⟨lw_p54, List.forall_mem_cons.mpr ⟨lw_p55, fun _ h => absurd h List.not_mem_nil⟩⟩⟩⟩⟩⟩⟩⟩
def lw_privs : List (MethodName × Nat) := lw_privs_1 ++ (lw_privs_2 ++ (lw_privs_3 ++ (lw_privs_4)))
def lw_tbl : List Cond := k2_sels lw_privs ++ tables_1
theorem lw_privs_ok : ∀ q ∈ lw_privs, lw_okq q := by
  show ∀ q ∈ lw_privs_1 ++ (lw_privs_2 ++ (lw_privs_3 ++ (lw_privs_4))), lw_okq q
  exact List.forall_mem_append.mpr ⟨lw_r1, List.forall_mem_append.mpr ⟨lw_r2, List.forall_mem_append.mpr ⟨lw_r3, lw_r4⟩⟩⟩
-- ===== end of PART A; then your names; then what follows =====
def RX0 : String := "StageMachine$Candles"
def TX0 : u_T := fun k => match k with
  | 0 => ("StageMachine$Candles", "lengths", "[I", true)
  | 1 => ("StageMachine$Candles", "ends", "[I", true)
  | 2 => ("StageMachine$Candles", "number", "I", false)
  | _ => ("StageMachine$Candles", "time", "I", false)
def tyX0 : Nat → FieldType := fun k => match k with
  | 0 => .array .int
  | 1 => .array .int
  | 2 => .int
  | _ => .int
abbrev wsX00 : List Cond := u_ws RX0 TX0 4
theorem nmX0 : ∀ a, a < 4 → ∀ b, b < 4 → a ≠ b → (TX0 a).2.1 ≠ (TX0 b).2.1 := by decide +kernel
theorem tyX0_ok : ∀ k, k < 4 → parseFieldDescriptor (TX0 k).2.2.1 = some (tyX0 k) := by decide +kernel
abbrev cX0_init : ByteArray := prog_2_method_1_code
def yX0_init : MethodName := ⟨RX0, "<init>", "()V"⟩
abbrev cX0_add : ByteArray := prog_2_method_2_code
def yX0_add : MethodName := ⟨RX0, "add", "(I)I"⟩
abbrev cX0_pass : ByteArray := prog_2_method_3_code
def yX0_pass : MethodName := ⟨RX0, "pass", "(I)I"⟩
abbrev cX0_renew : ByteArray := prog_2_method_4_code
def yX0_renew : MethodName := ⟨RX0, "renew", "(I)I"⟩
abbrev cX0_tell : ByteArray := prog_2_method_5_code
def yX0_tell : MethodName := ⟨RX0, "tell", "(I)I"⟩
abbrev cX0_burning : ByteArray := prog_2_method_6_code
def yX0_burning : MethodName := ⟨RX0, "burning", "()I"⟩
abbrev cX0_leastLeft : ByteArray := prog_2_method_7_code
def yX0_leastLeft : MethodName := ⟨RX0, "leastLeft", "()I"⟩
def RX1 : String := "StageMachine$Change"
def TX1 : u_T := fun k => match k with
  | 0 => ("StageMachine$Change", "stage", "LStageMachine$Stage;", true)
  | 1 => ("StageMachine$Change", "ropes", "[I", true)
  | 2 => ("StageMachine$Change", "drums", "[I", true)
  | 3 => ("StageMachine$Change", "shares", "[I", true)
  | 4 => ("StageMachine$Change", "asked", "Z", false)
  | 5 => ("StageMachine$Change", "found", "Z", false)
  | 6 => ("StageMachine$Change", "twos", "I", false)
  | 7 => ("StageMachine$Change", "threes", "I", false)
  | _ => ("StageMachine$Change", "fives", "I", false)
def tyX1 : Nat → FieldType := fun k => match k with
  | 0 => .object "StageMachine$Stage"
  | 1 => .array .int
  | 2 => .array .int
  | 3 => .array .int
  | 4 => .boolean
  | 5 => .boolean
  | 6 => .int
  | 7 => .int
  | _ => .int
abbrev wsX10 : List Cond := u_ws RX1 TX1 9
theorem nmX1 : ∀ a, a < 9 → ∀ b, b < 9 → a ≠ b → (TX1 a).2.1 ≠ (TX1 b).2.1 := by decide +kernel
theorem tyX1_ok : ∀ k, k < 9 → parseFieldDescriptor (TX1 k).2.2.1 = some (tyX1 k) := by decide +kernel
abbrev cX1_init : ByteArray := prog_3_method_1_code
def yX1_init : MethodName := ⟨RX1, "<init>", "(LStageMachine$Stage;)V"⟩
abbrev cX1_plan : ByteArray := prog_3_method_2_code
def yX1_plan : MethodName := ⟨RX1, "plan", "(II)I"⟩
abbrev cX1_findTie : ByteArray := prog_3_method_3_code
def yX1_findTie : MethodName := ⟨RX1, "findTie", "(LStageMachine$Thing;II)Z"⟩
abbrev cX1_findDrum : ByteArray := prog_3_method_4_code
def yX1_findDrum : MethodName := ⟨RX1, "findDrum", "(LStageMachine$Rope;II)I"⟩
abbrev cX1_countWorks : ByteArray := prog_3_method_5_code
def yX1_countWorks : MethodName := ⟨RX1, "countWorks", "()V"⟩
abbrev cX1_isReady : ByteArray := prog_3_method_6_code
def yX1_isReady : MethodName := ⟨RX1, "isReady", "(LStageMachine$Rope;I)Z"⟩
abbrev cX1_tieOf : ByteArray := prog_3_method_7_code
def yX1_tieOf : MethodName := ⟨RX1, "tieOf", "(II)I"⟩
abbrev cX1_workFor : ByteArray := prog_3_method_8_code
def yX1_workFor : MethodName := ⟨RX1, "workFor", "(I)I"⟩
abbrev cX1_works : ByteArray := prog_3_method_9_code
def yX1_works : MethodName := ⟨RX1, "works", "()I"⟩
abbrev cX1_leastMen : ByteArray := prog_3_method_10_code
def yX1_leastMen : MethodName := ⟨RX1, "leastMen", "(I)I"⟩
abbrev cX1_longestWork : ByteArray := prog_3_method_11_code
def yX1_longestWork : MethodName := ⟨RX1, "longestWork", "()I"⟩
abbrev cX1_shareOut : ByteArray := prog_3_method_12_code
def yX1_shareOut : MethodName := ⟨RX1, "shareOut", "(I)I"⟩
abbrev cX1_leastShare : ByteArray := prog_3_method_13_code
def yX1_leastShare : MethodName := ⟨RX1, "leastShare", "(IIII)I"⟩
abbrev cX1_withWork : ByteArray := prog_3_method_14_code
def yX1_withWork : MethodName := ⟨RX1, "withWork", "(III)I"⟩
abbrev cX1_slot : ByteArray := prog_3_method_15_code
def yX1_slot : MethodName := ⟨RX1, "slot", "(III)I"⟩
def RX2 : String := "StageMachine$Drum"
def TX2 : u_T := fun k => match k with
  | 0 => ("StageMachine$Drum", "number", "I", true)
  | _ => ("StageMachine$Drum", "size", "I", true)
def tyX2 : Nat → FieldType := fun k => match k with
  | 0 => .int
  | _ => .int
abbrev wsX20 : List Cond := u_ws RX2 TX2 2
theorem nmX2 : ∀ a, a < 2 → ∀ b, b < 2 → a ≠ b → (TX2 a).2.1 ≠ (TX2 b).2.1 := by decide +kernel
theorem tyX2_ok : ∀ k, k < 2 → parseFieldDescriptor (TX2 k).2.2.1 = some (tyX2 k) := by decide +kernel
abbrev cX2_init : ByteArray := prog_4_method_1_code
def yX2_init : MethodName := ⟨RX2, "<init>", "(II)V"⟩
def RX3 : String := "StageMachine$Panel"
def TX3 : u_T := fun k => match k with
  | 0 => ("StageMachine$Panel", "height", "I", true)
  | 1 => ("StageMachine$Panel", "width", "I", true)
  | _ => ("StageMachine$Panel", "paint", "I", true)
def tyX3 : Nat → FieldType := fun k => match k with
  | 0 => .int
  | 1 => .int
  | _ => .int
abbrev wsX30 : List Cond := u_ws RX3 TX3 3
theorem nmX3 : ∀ a, a < 3 → ∀ b, b < 3 → a ≠ b → (TX3 a).2.1 ≠ (TX3 b).2.1 := by decide +kernel
theorem tyX3_ok : ∀ k, k < 3 → parseFieldDescriptor (TX3 k).2.2.1 = some (tyX3 k) := by decide +kernel
abbrev cX3_init : ByteArray := prog_5_method_1_code
def yX3_init : MethodName := ⟨RX3, "<init>", "(II)V"⟩
abbrev cX3_area : ByteArray := prog_5_method_2_code
def yX3_area : MethodName := ⟨RX3, "area", "()I"⟩
abbrev cX3_serves : ByteArray := prog_5_method_3_code
def yX3_serves : MethodName := ⟨RX3, "serves", "(LStageMachine$Panel;)Z"⟩
abbrev cX3_priceFor : ByteArray := prog_5_method_4_code
def yX3_priceFor : MethodName := ⟨RX3, "priceFor", "(LStageMachine$Panel;)I"⟩
def RX4 : String := "StageMachine$Rope"
def TX4 : u_T := fun k => match k with
  | 0 => ("StageMachine$Rope", "number", "I", true)
  | 1 => ("StageMachine$Rope", "thing", "LStageMachine$Thing;", true)
  | 2 => ("StageMachine$Rope", "way", "I", true)
  | 3 => ("StageMachine$Rope", "gear", "I", true)
  | 4 => ("StageMachine$Rope", "holds", "I", true)
  | 5 => ("StageMachine$Rope", "drum", "LStageMachine$Drum;", false)
  | 6 => ("StageMachine$Rope", "start", "I", false)
  | 7 => ("StageMachine$Rope", "done", "I", false)
  | 8 => ("StageMachine$Rope", "gone", "Z", false)
  | 9 => ("StageMachine$Rope", "keptDrum", "LStageMachine$Drum;", false)
  | 10 => ("StageMachine$Rope", "keptStart", "I", false)
  | _ => ("StageMachine$Rope", "keptDone", "I", false)
def tyX4 : Nat → FieldType := fun k => match k with
  | 0 => .int
  | 1 => .object "StageMachine$Thing"
  | 2 => .int
  | 3 => .int
  | 4 => .int
  | 5 => .object "StageMachine$Drum"
  | 6 => .int
  | 7 => .int
  | 8 => .boolean
  | 9 => .object "StageMachine$Drum"
  | 10 => .int
  | _ => .int
abbrev wsX40 : List Cond := u_ws RX4 TX4 12
theorem nmX4 : ∀ a, a < 12 → ∀ b, b < 12 → a ≠ b → (TX4 a).2.1 ≠ (TX4 b).2.1 := by decide +kernel
theorem tyX4_ok : ∀ k, k < 12 → parseFieldDescriptor (TX4 k).2.2.1 = some (tyX4 k) := by decide +kernel
abbrev cX4_init : ByteArray := prog_6_method_1_code
def yX4_init : MethodName := ⟨RX4, "<init>", "(ILStageMachine$Thing;III)V"⟩
abbrev cX4_tell : ByteArray := prog_6_method_2_code
def yX4_tell : MethodName := ⟨RX4, "tell", "(I)I"⟩
abbrev cX4_load : ByteArray := prog_6_method_3_code
def yX4_load : MethodName := ⟨RX4, "load", "()I"⟩
abbrev cX4_spare : ByteArray := prog_6_method_4_code
def yX4_spare : MethodName := ⟨RX4, "spare", "()I"⟩
abbrev cX4_placeFrom : ByteArray := prog_6_method_5_code
def yX4_placeFrom : MethodName := ⟨RX4, "placeFrom", "(II)I"⟩
abbrev cX4_doneAfter : ByteArray := prog_6_method_6_code
def yX4_doneAfter : MethodName := ⟨RX4, "doneAfter", "(I)I"⟩
abbrev cX4_pullAt : ByteArray := prog_6_method_7_code
def yX4_pullAt : MethodName := ⟨RX4, "pullAt", "(I)I"⟩
abbrev cX4_stepsToNextPlace : ByteArray := prog_6_method_8_code
def yX4_stepsToNextPlace : MethodName := ⟨RX4, "stepsToNextPlace", "(II)I"⟩
abbrev cX4_advance : ByteArray := prog_6_method_9_code
def yX4_advance : MethodName := ⟨RX4, "advance", "(I)V"⟩
abbrev cX4_bind : ByteArray := prog_6_method_10_code
def yX4_bind : MethodName := ⟨RX4, "bind", "(LStageMachine$Drum;)V"⟩
abbrev cX4_loosen : ByteArray := prog_6_method_11_code
def yX4_loosen : MethodName := ⟨RX4, "loosen", "()V"⟩
def RX5 : String := "StageMachine$Stage"
def TX5 : u_T := fun k => match k with
  | 0 => ("StageMachine$Stage", "things", "[LStageMachine$Thing;", true)
  | 1 => ("StageMachine$Stage", "drums", "[LStageMachine$Drum;", true)
  | 2 => ("StageMachine$Stage", "ropes", "[LStageMachine$Rope;", true)
  | 3 => ("StageMachine$Stage", "weights", "[I", true)
  | 4 => ("StageMachine$Stage", "keptWeights", "[I", true)
  | 5 => ("StageMachine$Stage", "catches", "[I", true)
  | 6 => ("StageMachine$Stage", "catchCounts", "[I", true)
  | 7 => ("StageMachine$Stage", "thingCount", "I", false)
  | 8 => ("StageMachine$Stage", "drumCount", "I", false)
  | 9 => ("StageMachine$Stage", "ropeCount", "I", false)
  | 10 => ("StageMachine$Stage", "bound", "I", false)
  | 11 => ("StageMachine$Stage", "shaft", "I", false)
  | 12 => ("StageMachine$Stage", "wear", "I", false)
  | 13 => ("StageMachine$Stage", "keptShaft", "I", false)
  | _ => ("StageMachine$Stage", "keptWear", "I", false)
def tyX5 : Nat → FieldType := fun k => match k with
  | 0 => .array (.object "StageMachine$Thing")
  | 1 => .array (.object "StageMachine$Drum")
  | 2 => .array (.object "StageMachine$Rope")
  | 3 => .array .int
  | 4 => .array .int
  | 5 => .array .int
  | 6 => .array .int
  | 7 => .int
  | 8 => .int
  | 9 => .int
  | 10 => .int
  | 11 => .int
  | 12 => .int
  | 13 => .int
  | _ => .int
abbrev wsX50 : List Cond := u_ws RX5 TX5 15
theorem nmX5 : ∀ a, a < 15 → ∀ b, b < 15 → a ≠ b → (TX5 a).2.1 ≠ (TX5 b).2.1 := by decide +kernel
theorem tyX5_ok : ∀ k, k < 15 → parseFieldDescriptor (TX5 k).2.2.1 = some (tyX5 k) := by decide +kernel
abbrev cX5_init : ByteArray := prog_7_method_1_code
def yX5_init : MethodName := ⟨RX5, "<init>", "()V"⟩
abbrev cX5_thingNumbered : ByteArray := prog_7_method_2_code
def yX5_thingNumbered : MethodName := ⟨RX5, "thingNumbered", "(I)LStageMachine$Thing;"⟩
abbrev cX5_drumNumbered : ByteArray := prog_7_method_3_code
def yX5_drumNumbered : MethodName := ⟨RX5, "drumNumbered", "(I)LStageMachine$Drum;"⟩
abbrev cX5_ropeNumbered : ByteArray := prog_7_method_4_code
def yX5_ropeNumbered : MethodName := ⟨RX5, "ropeNumbered", "(I)LStageMachine$Rope;"⟩
abbrev cX5_addThing : ByteArray := prog_7_method_5_code
def yX5_addThing : MethodName := ⟨RX5, "addThing", "(IIII)I"⟩
abbrev cX5_addDrum : ByteArray := prog_7_method_6_code
def yX5_addDrum : MethodName := ⟨RX5, "addDrum", "(I)I"⟩
abbrev cX5_addRope : ByteArray := prog_7_method_7_code
def yX5_addRope : MethodName := ⟨RX5, "addRope", "(III)I"⟩
abbrev cX5_standingOn : ByteArray := prog_7_method_8_code
def yX5_standingOn : MethodName := ⟨RX5, "standingOn", "(I)I"⟩
abbrev cX5_isClear : ByteArray := prog_7_method_9_code
def yX5_isClear : MethodName := ⟨RX5, "isClear", "(LStageMachine$Thing;III)Z"⟩
abbrev cX5_tieRope : ByteArray := prog_7_method_10_code
def yX5_tieRope : MethodName := ⟨RX5, "tieRope", "(II)I"⟩
abbrev cX5_untieRope : ByteArray := prog_7_method_11_code
def yX5_untieRope : MethodName := ⟨RX5, "untieRope", "(I)I"⟩
abbrev cX5_tiedCount : ByteArray := prog_7_method_12_code
def yX5_tiedCount : MethodName := ⟨RX5, "tiedCount", "()I"⟩
abbrev cX5_setWeight : ByteArray := prog_7_method_13_code
def yX5_setWeight : MethodName := ⟨RX5, "setWeight", "(II)I"⟩
abbrev cX5_setBound : ByteArray := prog_7_method_14_code
def yX5_setBound : MethodName := ⟨RX5, "setBound", "(I)I"⟩
abbrev cX5_pullNow : ByteArray := prog_7_method_15_code
def yX5_pullNow : MethodName := ⟨RX5, "pullNow", "()I"⟩
abbrev cX5_place : ByteArray := prog_7_method_16_code
def yX5_place : MethodName := ⟨RX5, "place", "(I)V"⟩
abbrev cX5_trialPull : ByteArray := prog_7_method_17_code
def yX5_trialPull : MethodName := ⟨RX5, "trialPull", "()I"⟩
abbrev cX5_advance : ByteArray := prog_7_method_18_code
def yX5_advance : MethodName := ⟨RX5, "advance", "(I)V"⟩
abbrev cX5_breakRope : ByteArray := prog_7_method_19_code
def yX5_breakRope : MethodName := ⟨RX5, "breakRope", "(I)I"⟩
abbrev cX5_fall : ByteArray := prog_7_method_20_code
def yX5_fall : MethodName := ⟨RX5, "fall", "(LStageMachine$Thing;II)I"⟩
abbrev cX5_canFall : ByteArray := prog_7_method_21_code
def yX5_canFall : MethodName := ⟨RX5, "canFall", "(LStageMachine$Thing;I)Z"⟩
abbrev cX5_isCatch : ByteArray := prog_7_method_22_code
def yX5_isCatch : MethodName := ⟨RX5, "isCatch", "(II)Z"⟩
abbrev cX5_addCatch : ByteArray := prog_7_method_23_code
def yX5_addCatch : MethodName := ⟨RX5, "addCatch", "(I)I"⟩
abbrev cX5_isStagePlace : ByteArray := prog_7_method_24_code
def yX5_isStagePlace : MethodName := ⟨RX5, "isStagePlace", "(I)Z"⟩
abbrev cX5_keep : ByteArray := prog_7_method_25_code
def yX5_keep : MethodName := ⟨RX5, "keep", "()V"⟩
abbrev cX5_restore : ByteArray := prog_7_method_26_code
def yX5_restore : MethodName := ⟨RX5, "restore", "()V"⟩
def RX6 : String := "StageMachine$Stock"
def TX6 : u_T := fun k => match k with
  | 0 => ("StageMachine$Stock", "flats", "[LStageMachine$Panel;", true)
  | 1 => ("StageMachine$Stock", "wants", "[LStageMachine$Panel;", true)
  | 2 => ("StageMachine$Stock", "givenFlats", "[I", true)
  | 3 => ("StageMachine$Stock", "sums", "[I", true)
  | 4 => ("StageMachine$Stock", "flatCount", "I", false)
  | 5 => ("StageMachine$Stock", "wantCount", "I", false)
  | _ => ("StageMachine$Stock", "givenCount", "I", false)
def tyX6 : Nat → FieldType := fun k => match k with
  | 0 => .array (.object "StageMachine$Panel")
  | 1 => .array (.object "StageMachine$Panel")
  | 2 => .array .int
  | 3 => .array .int
  | 4 => .int
  | 5 => .int
  | _ => .int
abbrev wsX60 : List Cond := u_ws RX6 TX6 7
theorem nmX6 : ∀ a, a < 7 → ∀ b, b < 7 → a ≠ b → (TX6 a).2.1 ≠ (TX6 b).2.1 := by decide +kernel
theorem tyX6_ok : ∀ k, k < 7 → parseFieldDescriptor (TX6 k).2.2.1 = some (tyX6 k) := by decide +kernel
abbrev cX6_init : ByteArray := prog_8_method_1_code
def yX6_init : MethodName := ⟨RX6, "<init>", "()V"⟩
abbrev cX6_addFlat : ByteArray := prog_8_method_2_code
def yX6_addFlat : MethodName := ⟨RX6, "addFlat", "(II)I"⟩
abbrev cX6_addWant : ByteArray := prog_8_method_3_code
def yX6_addWant : MethodName := ⟨RX6, "addWant", "(II)I"⟩
abbrev cX6_isPanel : ByteArray := prog_8_method_4_code
def yX6_isPanel : MethodName := ⟨RX6, "isPanel", "(II)Z"⟩
abbrev cX6_leastPainting : ByteArray := prog_8_method_5_code
def yX6_leastPainting : MethodName := ⟨RX6, "leastPainting", "()I"⟩
abbrev cX6_leastSum : ByteArray := prog_8_method_6_code
def yX6_leastSum : MethodName := ⟨RX6, "leastSum", "()I"⟩
abbrev cX6_leastSumBehind : ByteArray := prog_8_method_7_code
def yX6_leastSumBehind : MethodName := ⟨RX6, "leastSumBehind", "(ILStageMachine$Panel;)I"⟩
abbrev cX6_sumWith : ByteArray := prog_8_method_8_code
def yX6_sumWith : MethodName := ⟨RX6, "sumWith", "(IILStageMachine$Panel;)I"⟩
abbrev cX6_give : ByteArray := prog_8_method_9_code
def yX6_give : MethodName := ⟨RX6, "give", "()V"⟩
abbrev cX6_givenTo : ByteArray := prog_8_method_10_code
def yX6_givenTo : MethodName := ⟨RX6, "givenTo", "(I)I"⟩
def RX7 : String := "StageMachine$Stop"
def TX7 : u_T := fun k => match k with
  | 0 => ("StageMachine$Stop", "kind", "I", false)
  | 1 => ("StageMachine$Stop", "thing", "I", false)
  | _ => ("StageMachine$Stop", "other", "I", false)
def tyX7 : Nat → FieldType := fun k => match k with
  | 0 => .int
  | 1 => .int
  | _ => .int
abbrev wsX70 : List Cond := u_ws RX7 TX7 3
theorem nmX7 : ∀ a, a < 3 → ∀ b, b < 3 → a ≠ b → (TX7 a).2.1 ≠ (TX7 b).2.1 := by decide +kernel
theorem tyX7_ok : ∀ k, k < 3 → parseFieldDescriptor (TX7 k).2.2.1 = some (tyX7 k) := by decide +kernel
abbrev cX7_init : ByteArray := prog_9_method_1_code
def yX7_init : MethodName := ⟨RX7, "<init>", "()V"⟩
abbrev cX7_put : ByteArray := prog_9_method_2_code
def yX7_put : MethodName := ⟨RX7, "put", "(III)V"⟩
abbrev cX7_tell : ByteArray := prog_9_method_3_code
def yX7_tell : MethodName := ⟨RX7, "tell", "(I)I"⟩
def RX8 : String := "StageMachine$Tape"
def TX8 : u_T := fun k => match k with
  | 0 => ("StageMachine$Tape", "bytes", "[I", true)
  | 1 => ("StageMachine$Tape", "letters", "[I", true)
  | 2 => ("StageMachine$Tape", "firsts", "[I", true)
  | 3 => ("StageMachine$Tape", "seconds", "[I", true)
  | 4 => ("StageMachine$Tape", "length", "I", false)
  | 5 => ("StageMachine$Tape", "lineCount", "I", false)
  | 6 => ("StageMachine$Tape", "next", "I", false)
  | _ => ("StageMachine$Tape", "number", "I", false)
def tyX8 : Nat → FieldType := fun k => match k with
  | 0 => .array .int
  | 1 => .array .int
  | 2 => .array .int
  | 3 => .array .int
  | 4 => .int
  | 5 => .int
  | 6 => .int
  | _ => .int
abbrev wsX80 : List Cond := u_ws RX8 TX8 8
theorem nmX8 : ∀ a, a < 8 → ∀ b, b < 8 → a ≠ b → (TX8 a).2.1 ≠ (TX8 b).2.1 := by decide +kernel
theorem tyX8_ok : ∀ k, k < 8 → parseFieldDescriptor (TX8 k).2.2.1 = some (tyX8 k) := by decide +kernel
abbrev cX8_init : ByteArray := prog_10_method_1_code
def yX8_init : MethodName := ⟨RX8, "<init>", "()V"⟩
abbrev cX8_take : ByteArray := prog_10_method_2_code
def yX8_take : MethodName := ⟨RX8, "take", "(II)I"⟩
abbrev cX8_readLines : ByteArray := prog_10_method_3_code
def yX8_readLines : MethodName := ⟨RX8, "readLines", "()I"⟩
abbrev cX8_readLine : ByteArray := prog_10_method_4_code
def yX8_readLine : MethodName := ⟨RX8, "readLine", "(I)Z"⟩
abbrev cX8_readOne : ByteArray := prog_10_method_5_code
def yX8_readOne : MethodName := ⟨RX8, "readOne", "(IZ)Z"⟩
abbrev cX8_readTwo : ByteArray := prog_10_method_6_code
def yX8_readTwo : MethodName := ⟨RX8, "readTwo", "(IZ)Z"⟩
abbrev cX8_readNumber : ByteArray := prog_10_method_7_code
def yX8_readNumber : MethodName := ⟨RX8, "readNumber", "(Z)Z"⟩
abbrev cX8_readSign : ByteArray := prog_10_method_8_code
def yX8_readSign : MethodName := ⟨RX8, "readSign", "(I)Z"⟩
abbrev cX8_peek : ByteArray := prog_10_method_9_code
def yX8_peek : MethodName := ⟨RX8, "peek", "()I"⟩
def RX9 : String := "StageMachine$Thing"
def TX9 : u_T := fun k => match k with
  | 0 => ("StageMachine$Thing", "number", "I", true)
  | 1 => ("StageMachine$Thing", "lane", "I", true)
  | 2 => ("StageMachine$Thing", "width", "I", true)
  | 3 => ("StageMachine$Thing", "weight", "I", true)
  | 4 => ("StageMachine$Thing", "least", "I", true)
  | 5 => ("StageMachine$Thing", "most", "I", true)
  | 6 => ("StageMachine$Thing", "sceneAt", "[I", true)
  | 7 => ("StageMachine$Thing", "at", "I", false)
  | 8 => ("StageMachine$Thing", "trialAt", "I", false)
  | 9 => ("StageMachine$Thing", "tied", "LStageMachine$Rope;", false)
  | 10 => ("StageMachine$Thing", "keptAt", "I", false)
  | _ => ("StageMachine$Thing", "keptTied", "LStageMachine$Rope;", false)
def tyX9 : Nat → FieldType := fun k => match k with
  | 0 => .int
  | 1 => .int
  | 2 => .int
  | 3 => .int
  | 4 => .int
  | 5 => .int
  | 6 => .array .int
  | 7 => .int
  | 8 => .int
  | 9 => .object "StageMachine$Rope"
  | 10 => .int
  | _ => .object "StageMachine$Rope"
abbrev wsX90 : List Cond := u_ws RX9 TX9 12
theorem nmX9 : ∀ a, a < 12 → ∀ b, b < 12 → a ≠ b → (TX9 a).2.1 ≠ (TX9 b).2.1 := by decide +kernel
theorem tyX9_ok : ∀ k, k < 12 → parseFieldDescriptor (TX9 k).2.2.1 = some (tyX9 k) := by decide +kernel
abbrev cX9_init : ByteArray := prog_11_method_1_code
def yX9_init : MethodName := ⟨RX9, "<init>", "(IIIIIII)V"⟩
abbrev cX9_tell : ByteArray := prog_11_method_2_code
def yX9_tell : MethodName := ⟨RX9, "tell", "(I)I"⟩
abbrev cX9_tellScene : ByteArray := prog_11_method_3_code
def yX9_tellScene : MethodName := ⟨RX9, "tellScene", "(II)I"⟩
abbrev cX9_covers : ByteArray := prog_11_method_4_code
def yX9_covers : MethodName := ⟨RX9, "covers", "(I)Z"⟩
abbrev cX9_wouldMeet : ByteArray := prog_11_method_5_code
def yX9_wouldMeet : MethodName := ⟨RX9, "wouldMeet", "(LStageMachine$Thing;)Z"⟩
def RX10 : String := "StageMachine$Turning"
def TX10 : u_T := fun k => match k with
  | 0 => ("StageMachine$Turning", "stage", "LStageMachine$Stage;", true)
  | 1 => ("StageMachine$Turning", "latest", "LStageMachine$Stop;", true)
  | _ => ("StageMachine$Turning", "ahead", "LStageMachine$Stop;", true)
def tyX10 : Nat → FieldType := fun k => match k with
  | 0 => .object "StageMachine$Stage"
  | 1 => .object "StageMachine$Stop"
  | _ => .object "StageMachine$Stop"
abbrev wsX100 : List Cond := u_ws RX10 TX10 3
theorem nmX10 : ∀ a, a < 3 → ∀ b, b < 3 → a ≠ b → (TX10 a).2.1 ≠ (TX10 b).2.1 := by decide +kernel
theorem tyX10_ok : ∀ k, k < 3 → parseFieldDescriptor (TX10 k).2.2.1 = some (tyX10 k) := by decide +kernel
abbrev cX10_init : ByteArray := prog_12_method_1_code
def yX10_init : MethodName := ⟨RX10, "<init>", "(LStageMachine$Stage;)V"⟩
abbrev cX10_turnBy : ByteArray := prog_12_method_2_code
def yX10_turnBy : MethodName := ⟨RX10, "turnBy", "(I)I"⟩
abbrev cX10_lookAhead : ByteArray := prog_12_method_3_code
def yX10_lookAhead : MethodName := ⟨RX10, "lookAhead", "(I)I"⟩
abbrev cX10_stepsToNextMove : ByteArray := prog_12_method_4_code
def yX10_stepsToNextMove : MethodName := ⟨RX10, "stepsToNextMove", "(II)I"⟩
abbrev cX10_isBeyond : ByteArray := prog_12_method_5_code
def yX10_isBeyond : MethodName := ⟨RX10, "isBeyond", "()Z"⟩
abbrev cX10_isMeeting : ByteArray := prog_12_method_6_code
def yX10_isMeeting : MethodName := ⟨RX10, "isMeeting", "()Z"⟩
abbrev cX10_isUneven : ByteArray := prog_12_method_7_code
def yX10_isUneven : MethodName := ⟨RX10, "isUneven", "(I)Z"⟩
def RX11 : String := "StageMachine"
def TX11 : u_T := fun k => match k with
  | 0 => ("StageMachine", "stage", "LStageMachine$Stage;", true)
  | 1 => ("StageMachine", "turning", "LStageMachine$Turning;", true)
  | 2 => ("StageMachine", "latestChange", "LStageMachine$Change;", true)
  | 3 => ("StageMachine", "tape", "LStageMachine$Tape;", true)
  | 4 => ("StageMachine", "candles", "LStageMachine$Candles;", true)
  | 5 => ("StageMachine", "stock", "LStageMachine$Stock;", true)
  | _ => ("StageMachine", "cueCanGoBack", "Z", false)
def tyX11 : Nat → FieldType := fun k => match k with
  | 0 => .object "StageMachine$Stage"
  | 1 => .object "StageMachine$Turning"
  | 2 => .object "StageMachine$Change"
  | 3 => .object "StageMachine$Tape"
  | 4 => .object "StageMachine$Candles"
  | 5 => .object "StageMachine$Stock"
  | _ => .boolean
abbrev wsX110 : List Cond := u_ws RX11 TX11 7
theorem nmX11 : ∀ a, a < 7 → ∀ b, b < 7 → a ≠ b → (TX11 a).2.1 ≠ (TX11 b).2.1 := by decide +kernel
theorem tyX11_ok : ∀ k, k < 7 → parseFieldDescriptor (TX11 k).2.2.1 = some (tyX11 k) := by decide +kernel
abbrev cX11_init : ByteArray := prog_1_method_1_code
def yX11_init : MethodName := ⟨RX11, "<init>", "()V"⟩
abbrev cX11_thing : ByteArray := prog_1_method_2_code
def yX11_thing : MethodName := ⟨RX11, "thing", "(IIII)I"⟩
abbrev cX11_ofThing : ByteArray := prog_1_method_3_code
def yX11_ofThing : MethodName := ⟨RX11, "ofThing", "(II)I"⟩
abbrev cX11_on : ByteArray := prog_1_method_4_code
def yX11_on : MethodName := ⟨RX11, "on", "(I)I"⟩
abbrev cX11_drum : ByteArray := prog_1_method_5_code
def yX11_drum : MethodName := ⟨RX11, "drum", "(I)I"⟩
abbrev cX11_rope : ByteArray := prog_1_method_6_code
def yX11_rope : MethodName := ⟨RX11, "rope", "(III)I"⟩
abbrev cX11_ofRope : ByteArray := prog_1_method_7_code
def yX11_ofRope : MethodName := ⟨RX11, "ofRope", "(II)I"⟩
abbrev cX11_tie : ByteArray := prog_1_method_8_code
def yX11_tie : MethodName := ⟨RX11, "tie", "(II)I"⟩
abbrev cX11_untie : ByteArray := prog_1_method_9_code
def yX11_untie : MethodName := ⟨RX11, "untie", "(I)I"⟩
abbrev cX11_weight : ByteArray := prog_1_method_10_code
def yX11_weight : MethodName := ⟨RX11, "weight", "(II)I"⟩
abbrev cX11_bound : ByteArray := prog_1_method_11_code
def yX11_bound : MethodName := ⟨RX11, "bound", "(I)I"⟩
abbrev cX11_pull : ByteArray := prog_1_method_12_code
def yX11_pull : MethodName := ⟨RX11, "pull", "()I"⟩
abbrev cX11_turn : ByteArray := prog_1_method_13_code
def yX11_turn : MethodName := ⟨RX11, "turn", "(I)I"⟩
abbrev cX11_stopped : ByteArray := prog_1_method_14_code
def yX11_stopped : MethodName := ⟨RX11, "stopped", "(I)I"⟩
abbrev cX11_free : ByteArray := prog_1_method_15_code
def yX11_free : MethodName := ⟨RX11, "free", "(I)I"⟩
abbrev cX11_snap : ByteArray := prog_1_method_16_code
def yX11_snap : MethodName := ⟨RX11, "snap", "(I)I"⟩
abbrev cX11_hold : ByteArray := prog_1_method_17_code
def yX11_hold : MethodName := ⟨RX11, "hold", "(I)I"⟩
abbrev cX11_scene : ByteArray := prog_1_method_18_code
def yX11_scene : MethodName := ⟨RX11, "scene", "(III)I"⟩
abbrev cX11_change : ByteArray := prog_1_method_19_code
def yX11_change : MethodName := ⟨RX11, "change", "(II)I"⟩
abbrev cX11_told : ByteArray := prog_1_method_20_code
def yX11_told : MethodName := ⟨RX11, "told", "(II)I"⟩
abbrev cX11_work : ByteArray := prog_1_method_21_code
def yX11_work : MethodName := ⟨RX11, "work", "(I)I"⟩
abbrev cX11_men : ByteArray := prog_1_method_22_code
def yX11_men : MethodName := ⟨RX11, "men", "(I)I"⟩
abbrev cX11_feed : ByteArray := prog_1_method_23_code
def yX11_feed : MethodName := ⟨RX11, "feed", "(II)I"⟩
abbrev cX11_play : ByteArray := prog_1_method_24_code
def yX11_play : MethodName := ⟨RX11, "play", "()I"⟩
abbrev cX11_back : ByteArray := prog_1_method_25_code
def yX11_back : MethodName := ⟨RX11, "back", "()I"⟩
abbrev cX11_candle : ByteArray := prog_1_method_26_code
def yX11_candle : MethodName := ⟨RX11, "candle", "(I)I"⟩
abbrev cX11_minutes : ByteArray := prog_1_method_27_code
def yX11_minutes : MethodName := ⟨RX11, "minutes", "(I)I"⟩
abbrev cX11_trim : ByteArray := prog_1_method_28_code
def yX11_trim : MethodName := ⟨RX11, "trim", "(I)I"⟩
abbrev cX11_light : ByteArray := prog_1_method_29_code
def yX11_light : MethodName := ⟨RX11, "light", "(I)I"⟩
abbrev cX11_flat : ByteArray := prog_1_method_30_code
def yX11_flat : MethodName := ⟨RX11, "flat", "(II)I"⟩
abbrev cX11_want : ByteArray := prog_1_method_31_code
def yX11_want : MethodName := ⟨RX11, "want", "(II)I"⟩
abbrev cX11_paint : ByteArray := prog_1_method_32_code
def yX11_paint : MethodName := ⟨RX11, "paint", "()I"⟩
abbrev cX11_given : ByteArray := prog_1_method_33_code
def yX11_given : MethodName := ⟨RX11, "given", "(I)I"⟩
abbrev cX11_count : ByteArray := prog_1_method_34_code
def yX11_count : MethodName := ⟨RX11, "count", "(I)I"⟩
abbrev cX11_deed : ByteArray := prog_1_method_35_code
def yX11_deed : MethodName := ⟨RX11, "deed", "(IZ)I"⟩
abbrev cX11_playLine : ByteArray := prog_1_method_36_code
def yX11_playLine : MethodName := ⟨RX11, "playLine", "(I)I"⟩
abbrev cX11_isTurn : ByteArray := prog_1_method_37_code
def yX11_isTurn : MethodName := ⟨RX11, "isTurn", "(I)Z"⟩
abbrev cX11_isWithin : ByteArray := prog_1_method_38_code
def yX11_isWithin : MethodName := ⟨RX11, "isWithin", "(III)Z"⟩
abbrev cX11_quotient : ByteArray := prog_1_method_39_code
def yX11_quotient : MethodName := ⟨RX11, "quotient", "(II)I"⟩
abbrev cX11_quotientUp : ByteArray := prog_1_method_40_code
def yX11_quotientUp : MethodName := ⟨RX11, "quotientUp", "(II)I"⟩
abbrev cX11_overlap : ByteArray := prog_1_method_41_code
def yX11_overlap : MethodName := ⟨RX11, "overlap", "(IIII)Z"⟩
def RX12 : String := "StageMachineModel"
def TX12 : u_T := fun k => match k with
  | 0 => ("StageMachineModel", "code", "I", false)
  | 1 => ("StageMachineModel", "things", "I", false)
  | 2 => ("StageMachineModel", "lane", "[I", true)
  | 3 => ("StageMachineModel", "width", "[I", true)
  | 4 => ("StageMachineModel", "weightOf", "[I", true)
  | 5 => ("StageMachineModel", "at", "[I", true)
  | 6 => ("StageMachineModel", "least", "[I", true)
  | 7 => ("StageMachineModel", "most", "[I", true)
  | 8 => ("StageMachineModel", "atThen", "[I", true)
  | 9 => ("StageMachineModel", "drums", "I", false)
  | 10 => ("StageMachineModel", "size", "[I", true)
  | 11 => ("StageMachineModel", "ropes", "I", false)
  | 12 => ("StageMachineModel", "ropeThing", "[I", true)
  | 13 => ("StageMachineModel", "gear", "[I", true)
  | 14 => ("StageMachineModel", "way", "[I", true)
  | 15 => ("StageMachineModel", "holds", "[I", true)
  | 16 => ("StageMachineModel", "drumOf", "[I", true)
  | 17 => ("StageMachineModel", "done", "[I", true)
  | 18 => ("StageMachineModel", "isGone", "[Z", true)
  | 19 => ("StageMachineModel", "counter", "[I", true)
  | 20 => ("StageMachineModel", "bound", "I", false)
  | 21 => ("StageMachineModel", "shaft", "I", false)
  | 22 => ("StageMachineModel", "wear", "I", false)
  | 23 => ("StageMachineModel", "why", "I", false)
  | 24 => ("StageMachineModel", "whyThing", "I", false)
  | 25 => ("StageMachineModel", "whyOther", "I", false)
  | 26 => ("StageMachineModel", "catches", "[I", true)
  | 27 => ("StageMachineModel", "catchAt", "[I", true)
  | 28 => ("StageMachineModel", "scenes", "[I", true)
  | 29 => ("StageMachineModel", "hasChange", "Z", false)
  | 30 => ("StageMachineModel", "isNone", "Z", false)
  | 31 => ("StageMachineModel", "toldRope", "[I", true)
  | 32 => ("StageMachineModel", "toldDrum", "[I", true)
  | 33 => ("StageMachineModel", "works", "[I", true)
  | 34 => ("StageMachineModel", "toldMany", "I", false)
  | 35 => ("StageMachineModel", "leastMen", "[I", true)
  | 36 => ("StageMachineModel", "tape", "[B", true)
  | 37 => ("StageMachineModel", "taped", "I", false)
  | 38 => ("StageMachineModel", "here", "I", false)
  | 39 => ("StageMachineModel", "lines", "I", false)
  | 40 => ("StageMachineModel", "lineWhat", "[I", true)
  | 41 => ("StageMachineModel", "lineA", "[I", true)
  | 42 => ("StageMachineModel", "lineB", "[I", true)
  | 43 => ("StageMachineModel", "canBack", "Z", false)
  | 44 => ("StageMachineModel", "keptAt", "[I", true)
  | 45 => ("StageMachineModel", "keptThen", "[I", true)
  | 46 => ("StageMachineModel", "keptDrum", "[I", true)
  | 47 => ("StageMachineModel", "keptDone", "[I", true)
  | 48 => ("StageMachineModel", "keptCounter", "[I", true)
  | 49 => ("StageMachineModel", "keptShaft", "I", false)
  | 50 => ("StageMachineModel", "keptWear", "I", false)
  | 51 => ("StageMachineModel", "number", "I", false)
  | 52 => ("StageMachineModel", "time", "I", false)
  | 53 => ("StageMachineModel", "candles", "I", false)
  | 54 => ("StageMachineModel", "burns", "[I", true)
  | 55 => ("StageMachineModel", "litAt", "[I", true)
  | 56 => ("StageMachineModel", "flats", "I", false)
  | 57 => ("StageMachineModel", "flatSize", "[I", true)
  | 58 => ("StageMachineModel", "flatPaint", "[I", true)
  | 59 => ("StageMachineModel", "wants", "I", false)
  | 60 => ("StageMachineModel", "wantSize", "[I", true)
  | 61 => ("StageMachineModel", "wantPaint", "[I", true)
  | 62 => ("StageMachineModel", "trial", "[I", true)
  | 63 => ("StageMachineModel", "givenMany", "I", false)
  | _ => ("StageMachineModel", "given", "[I", true)
def tyX12 : Nat → FieldType := fun k => match k with
  | 0 => .int
  | 1 => .int
  | 2 => .array .int
  | 3 => .array .int
  | 4 => .array .int
  | 5 => .array .int
  | 6 => .array .int
  | 7 => .array .int
  | 8 => .array .int
  | 9 => .int
  | 10 => .array .int
  | 11 => .int
  | 12 => .array .int
  | 13 => .array .int
  | 14 => .array .int
  | 15 => .array .int
  | 16 => .array .int
  | 17 => .array .int
  | 18 => .array .boolean
  | 19 => .array .int
  | 20 => .int
  | 21 => .int
  | 22 => .int
  | 23 => .int
  | 24 => .int
  | 25 => .int
  | 26 => .array .int
  | 27 => .array .int
  | 28 => .array .int
  | 29 => .boolean
  | 30 => .boolean
  | 31 => .array .int
  | 32 => .array .int
  | 33 => .array .int
  | 34 => .int
  | 35 => .array .int
  | 36 => .array .byte
  | 37 => .int
  | 38 => .int
  | 39 => .int
  | 40 => .array .int
  | 41 => .array .int
  | 42 => .array .int
  | 43 => .boolean
  | 44 => .array .int
  | 45 => .array .int
  | 46 => .array .int
  | 47 => .array .int
  | 48 => .array .int
  | 49 => .int
  | 50 => .int
  | 51 => .int
  | 52 => .int
  | 53 => .int
  | 54 => .array .int
  | 55 => .array .int
  | 56 => .int
  | 57 => .array .int
  | 58 => .array .int
  | 59 => .int
  | 60 => .array .int
  | 61 => .array .int
  | 62 => .array .int
  | 63 => .int
  | _ => .array .int
abbrev wsX120 : List Cond := u_ws RX12 TX12 65
theorem nmX12 : ∀ a, a < 65 → ∀ b, b < 65 → a ≠ b → (TX12 a).2.1 ≠ (TX12 b).2.1 := by decide +kernel
theorem tyX12_ok : ∀ k, k < 65 → parseFieldDescriptor (TX12 k).2.2.1 = some (tyX12 k) := by decide +kernel
abbrev cX12_init : ByteArray := prog_14_method_1_code
def yX12_init : MethodName := ⟨RX12, "<init>", "()V"⟩
abbrev cX12_in : ByteArray := prog_14_method_3_code
def yX12_in : MethodName := ⟨RX12, "in", "(III)Z"⟩
abbrev cX12_isThing : ByteArray := prog_14_method_4_code
def yX12_isThing : MethodName := ⟨RX12, "isThing", "(I)Z"⟩
abbrev cX12_isRope : ByteArray := prog_14_method_5_code
def yX12_isRope : MethodName := ⟨RX12, "isRope", "(I)Z"⟩
abbrev cX12_isDrum : ByteArray := prog_14_method_6_code
def yX12_isDrum : MethodName := ⟨RX12, "isDrum", "(I)Z"⟩
abbrev cX12_meets : ByteArray := prog_14_method_7_code
def yX12_meets : MethodName := ⟨RX12, "meets", "(III)Z"⟩
abbrev cX12_other : ByteArray := prog_14_method_8_code
def yX12_other : MethodName := ⟨RX12, "other", "(II)I"⟩
abbrev cX12_thing : ByteArray := prog_14_method_9_code
def yX12_thing : MethodName := ⟨RX12, "thing", "(IIII)I"⟩
abbrev cX12_tiedTo : ByteArray := prog_14_method_10_code
def yX12_tiedTo : MethodName := ⟨RX12, "tiedTo", "(I)I"⟩
abbrev cX12_ofThing : ByteArray := prog_14_method_11_code
def yX12_ofThing : MethodName := ⟨RX12, "ofThing", "(II)I"⟩
abbrev cX12_on : ByteArray := prog_14_method_12_code
def yX12_on : MethodName := ⟨RX12, "on", "(I)I"⟩
abbrev cX12_drum : ByteArray := prog_14_method_13_code
def yX12_drum : MethodName := ⟨RX12, "drum", "(I)I"⟩
abbrev cX12_rope : ByteArray := prog_14_method_14_code
def yX12_rope : MethodName := ⟨RX12, "rope", "(III)I"⟩
abbrev cX12_load : ByteArray := prog_14_method_15_code
def yX12_load : MethodName := ⟨RX12, "load", "(I)I"⟩
abbrev cX12_ofRope : ByteArray := prog_14_method_16_code
def yX12_ofRope : MethodName := ⟨RX12, "ofRope", "(II)I"⟩
abbrev cX12_tieNow : ByteArray := prog_14_method_17_code
def yX12_tieNow : MethodName := ⟨RX12, "tieNow", "(II)I"⟩
abbrev cX12_tie : ByteArray := prog_14_method_18_code
def yX12_tie : MethodName := ⟨RX12, "tie", "(II)I"⟩
abbrev cX12_untieNow : ByteArray := prog_14_method_19_code
def yX12_untieNow : MethodName := ⟨RX12, "untieNow", "(I)I"⟩
abbrev cX12_untie : ByteArray := prog_14_method_20_code
def yX12_untie : MethodName := ⟨RX12, "untie", "(I)I"⟩
abbrev cX12_weighNow : ByteArray := prog_14_method_21_code
def yX12_weighNow : MethodName := ⟨RX12, "weighNow", "(II)I"⟩
abbrev cX12_weight : ByteArray := prog_14_method_22_code
def yX12_weight : MethodName := ⟨RX12, "weight", "(II)I"⟩
abbrev cX12_bound : ByteArray := prog_14_method_23_code
def yX12_bound : MethodName := ⟨RX12, "bound", "(I)I"⟩
abbrev cX12_pull : ByteArray := prog_14_method_24_code
def yX12_pull : MethodName := ⟨RX12, "pull", "()I"⟩
abbrev cX12_place : ByteArray := prog_14_method_25_code
def yX12_place : MethodName := ⟨RX12, "place", "(I)V"⟩
abbrev cX12_find : ByteArray := prog_14_method_26_code
def yX12_find : MethodName := ⟨RX12, "find", "()V"⟩
abbrev cX12_turnNow : ByteArray := prog_14_method_27_code
def yX12_turnNow : MethodName := ⟨RX12, "turnNow", "(I)I"⟩
abbrev cX12_isTurn : ByteArray := prog_14_method_28_code
def yX12_isTurn : MethodName := ⟨RX12, "isTurn", "(I)Z"⟩
abbrev cX12_turn : ByteArray := prog_14_method_29_code
def yX12_turn : MethodName := ⟨RX12, "turn", "(I)I"⟩
abbrev cX12_stopped : ByteArray := prog_14_method_30_code
def yX12_stopped : MethodName := ⟨RX12, "stopped", "(I)I"⟩
abbrev cX12_free : ByteArray := prog_14_method_31_code
def yX12_free : MethodName := ⟨RX12, "free", "(I)I"⟩
abbrev cX12_isCaught : ByteArray := prog_14_method_32_code
def yX12_isCaught : MethodName := ⟨RX12, "isCaught", "(II)Z"⟩
abbrev cX12_hold : ByteArray := prog_14_method_33_code
def yX12_hold : MethodName := ⟨RX12, "hold", "(I)I"⟩
abbrev cX12_snap : ByteArray := prog_14_method_34_code
def yX12_snap : MethodName := ⟨RX12, "snap", "(I)I"⟩
abbrev cX12_scene : ByteArray := prog_14_method_35_code
def yX12_scene : MethodName := ⟨RX12, "scene", "(III)I"⟩
abbrev cX12_brings : ByteArray := prog_14_method_36_code
def yX12_brings : MethodName := ⟨RX12, "brings", "(III)Z"⟩
abbrev cX12_workOf : ByteArray := prog_14_method_37_code
def yX12_workOf : MethodName := ⟨RX12, "workOf", "(I)I"⟩
abbrev cX12_change : ByteArray := prog_14_method_38_code
def yX12_change : MethodName := ⟨RX12, "change", "(II)I"⟩
abbrev cX12_told : ByteArray := prog_14_method_39_code
def yX12_told : MethodName := ⟨RX12, "told", "(II)I"⟩
abbrev cX12_work : ByteArray := prog_14_method_40_code
def yX12_work : MethodName := ⟨RX12, "work", "(I)I"⟩
abbrev cX12_menFor : ByteArray := prog_14_method_41_code
def yX12_menFor : MethodName := ⟨RX12, "menFor", "(IIII)I"⟩
abbrev cX12_men : ByteArray := prog_14_method_42_code
def yX12_men : MethodName := ⟨RX12, "men", "(I)I"⟩
abbrev cX12_feed : ByteArray := prog_14_method_43_code
def yX12_feed : MethodName := ⟨RX12, "feed", "(II)I"⟩
abbrev cX12_look : ByteArray := prog_14_method_44_code
def yX12_look : MethodName := ⟨RX12, "look", "()I"⟩
abbrev cX12_takes : ByteArray := prog_14_method_45_code
def yX12_takes : MethodName := ⟨RX12, "takes", "(Z)Z"⟩
abbrev cX12_line : ByteArray := prog_14_method_46_code
def yX12_line : MethodName := ⟨RX12, "line", "()Z"⟩
abbrev cX12_keep : ByteArray := prog_14_method_47_code
def yX12_keep : MethodName := ⟨RX12, "keep", "()V"⟩
abbrev cX12_play : ByteArray := prog_14_method_48_code
def yX12_play : MethodName := ⟨RX12, "play", "()I"⟩
abbrev cX12_back : ByteArray := prog_14_method_49_code
def yX12_back : MethodName := ⟨RX12, "back", "()I"⟩
abbrev cX12_left : ByteArray := prog_14_method_50_code
def yX12_left : MethodName := ⟨RX12, "left", "(I)I"⟩
abbrev cX12_candle : ByteArray := prog_14_method_51_code
def yX12_candle : MethodName := ⟨RX12, "candle", "(I)I"⟩
abbrev cX12_minutes : ByteArray := prog_14_method_52_code
def yX12_minutes : MethodName := ⟨RX12, "minutes", "(I)I"⟩
abbrev cX12_trim : ByteArray := prog_14_method_53_code
def yX12_trim : MethodName := ⟨RX12, "trim", "(I)I"⟩
abbrev cX12_light : ByteArray := prog_14_method_54_code
def yX12_light : MethodName := ⟨RX12, "light", "(I)I"⟩
abbrev cX12_isSize : ByteArray := prog_14_method_55_code
def yX12_isSize : MethodName := ⟨RX12, "isSize", "(I)Z"⟩
abbrev cX12_flat : ByteArray := prog_14_method_56_code
def yX12_flat : MethodName := ⟨RX12, "flat", "(II)I"⟩
abbrev cX12_want : ByteArray := prog_14_method_57_code
def yX12_want : MethodName := ⟨RX12, "want", "(II)I"⟩
abbrev cX12_area : ByteArray := prog_14_method_58_code
def yX12_area : MethodName := ⟨RX12, "area", "(I)I"⟩
abbrev cX12_cost : ByteArray := prog_14_method_59_code
def yX12_cost : MethodName := ⟨RX12, "cost", "(II)I"⟩
abbrev cX12_isTaken : ByteArray := prog_14_method_60_code
def yX12_isTaken : MethodName := ⟨RX12, "isTaken", "(I)Z"⟩
abbrev cX12_costTo : ByteArray := prog_14_method_61_code
def yX12_costTo : MethodName := ⟨RX12, "costTo", "(I)I"⟩
abbrev cX12_paint : ByteArray := prog_14_method_62_code
def yX12_paint : MethodName := ⟨RX12, "paint", "()I"⟩
abbrev cX12_given : ByteArray := prog_14_method_63_code
def yX12_given : MethodName := ⟨RX12, "given", "(I)I"⟩
abbrev cX12_count : ByteArray := prog_14_method_64_code
def yX12_count : MethodName := ⟨RX12, "count", "(I)I"⟩
def RJ6 : String := "java/lang/Integer"
def TJ6 : u_T := fun k => match k with
  | _ => ("", "", "", false)
def tyJ6 : Nat → FieldType := fun k => match k with
  | _ => .int
abbrev wsJ60 : List Cond := u_ws RJ6 TJ6 0
theorem nmJ6 : ∀ a, a < 0 → ∀ b, b < 0 → a ≠ b → (TJ6 a).2.1 ≠ (TJ6 b).2.1 := by decide +kernel
theorem tyJ6_ok : ∀ k, k < 0 → parseFieldDescriptor (TJ6 k).2.2.1 = some (tyJ6 k) := by decide +kernel
abbrev cJ6_bitCount_0f7a4 : ByteArray := prog_15_method_49_code
def yJ6_bitCount_0f7a4 : MethodName := ⟨RJ6, "bitCount", "(I)I"⟩
def RJ9 : String := "java/lang/Math"
def TJ9 : u_T := fun k => match k with
  | _ => ("", "", "", false)
def tyJ9 : Nat → FieldType := fun k => match k with
  | _ => .int
abbrev wsJ90 : List Cond := u_ws RJ9 TJ9 0
theorem nmJ9 : ∀ a, a < 0 → ∀ b, b < 0 → a ≠ b → (TJ9 a).2.1 ≠ (TJ9 b).2.1 := by decide +kernel
theorem tyJ9_ok : ∀ k, k < 0 → parseFieldDescriptor (TJ9 k).2.2.1 = some (tyJ9 k) := by decide +kernel
abbrev cJ9_abs_0f7a4 : ByteArray := prog_16_method_59_code
def yJ9_abs_0f7a4 : MethodName := ⟨RJ9, "abs", "(I)I"⟩
abbrev cJ9_max_7cf53 : ByteArray := prog_16_method_65_code
def yJ9_max_7cf53 : MethodName := ⟨RJ9, "max", "(II)I"⟩
abbrev cJ9_min_7cf53 : ByteArray := prog_16_method_69_code
def yJ9_min_7cf53 : MethodName := ⟨RJ9, "min", "(II)I"⟩
def RJ10 : String := "java/lang/System"
def TJ10 : u_T := fun k => match k with
  | _ => ("", "", "", false)
def tyJ10 : Nat → FieldType := fun k => match k with
  | _ => .int
abbrev wsJ100 : List Cond := u_ws RJ10 TJ10 0
theorem nmJ10 : ∀ a, a < 0 → ∀ b, b < 0 → a ≠ b → (TJ10 a).2.1 ≠ (TJ10 b).2.1 := by decide +kernel
theorem tyJ10_ok : ∀ k, k < 0 → parseFieldDescriptor (TJ10 k).2.2.1 = some (tyJ10 k) := by decide +kernel
def RJ7 : String := "java/util/Arrays"
def TJ7 : u_T := fun k => match k with
  | _ => ("", "", "", false)
def tyJ7 : Nat → FieldType := fun k => match k with
  | _ => .int
abbrev wsJ70 : List Cond := u_ws RJ7 TJ7 0
theorem nmJ7 : ∀ a, a < 0 → ∀ b, b < 0 → a ≠ b → (TJ7 a).2.1 ≠ (TJ7 b).2.1 := by decide +kernel
theorem tyJ7_ok : ∀ k, k < 0 → parseFieldDescriptor (TJ7 k).2.2.1 = some (tyJ7 k) := by decide +kernel
abbrev cJ7_fill_53178 : ByteArray := prog_18_method_103_code
def yJ7_fill_53178 : MethodName := ⟨RJ7, "fill", "([II)V"⟩
def RL : String := "StageMachineLaw"
abbrev cL_law : ByteArray := code
def yL_law : MethodName := ⟨RL, "law", "([I)Z"⟩
end
section
/-! my heap: fields by (field number, cell), array places by (cell, place); a cell is numbered from the law's start on -/
abbrev Hs : Type := (Nat → Nat → Int32) × (Nat → Nat → Option Nat) × (Nat → Nat → Int32) × (Nat → Nat → Option Nat) × (Nat → Nat × Nat) × Nat
def gI (h : Hs) (f a : Nat) : Int32 := h.1 f a
def gR (h : Hs) (f a : Nat) : Option Nat := h.2.1 f a
def aI (h : Hs) (a j : Nat) : Int32 := h.2.2.1 a j
def aR (h : Hs) (a j : Nat) : Option Nat := h.2.2.2.1 a j
def sh (h : Hs) (a : Nat) : Nat × Nat := h.2.2.2.2.1 a
def sz (h : Hs) : Nat := h.2.2.2.2.2
def uI (h : Hs) (f a : Nat) (v : Int32) : Hs := (fun f' a' => if f' = f ∧ a' = a then v else h.1 f' a', h.2)
def uR (h : Hs) (f a : Nat) (v : Option Nat) : Hs := (h.1, fun f' a' => if f' = f ∧ a' = a then v else h.2.1 f' a', h.2.2)
def uA (h : Hs) (a j : Nat) (v : Int32) : Hs := (h.1, h.2.1, fun a' j' => if a' = a ∧ j' = j then v else h.2.2.1 a' j', h.2.2.2)
def uQ (h : Hs) (a j : Nat) (v : Option Nat) : Hs := (h.1, h.2.1, h.2.2.1, fun a' j' => if a' = a ∧ j' = j then v else h.2.2.2.1 a' j', h.2.2.2.2)
def nw (h : Hs) (k : Nat × Nat) : Hs := (fun f a => if a = sz h then 0 else h.1 f a, fun f a => if a = sz h then none else h.2.1 f a, fun a j => if a = sz h then 0 else h.2.2.1 a j, fun a j => if a = sz h then none else h.2.2.2.1 a j, fun a => if a = sz h then k else h.2.2.2.2.1 a, sz h + 1)
/-! the machine's cells out of it -/
abbrev Gl : Type := Nat × va_G × (Nat → ClassId)
abbrev cls13 : List vw_C := [(RX0, TX0, 4), (RX1, TX1, 9), (RX2, TX2, 2), (RX3, TX3, 3), (RX4, TX4, 12), (RX5, TX5, 15), (RX6, TX6, 7), (RX7, TX7, 3), (RX8, TX8, 8), (RX9, TX9, 12), (RX10, TX10, 3), (RX11, TX11, 7), (RX12, TX12, 65)]
def tyOf (c j : Nat) : FieldType := match c with
  | 0 => tyX0 j | 1 => tyX1 j | 2 => tyX2 j | 3 => tyX3 j | 4 => tyX4 j | 5 => tyX5 j | 6 => tyX6 j | 7 => tyX7 j | 8 => tyX8 j | 9 => tyX9 j | 10 => tyX10 j | 11 => tyX11 j | _ => tyX12 j
def nF (c : Nat) : Nat := match c with
  | 0 => 4 | 1 => 9 | 2 => 2 | 3 => 3 | 4 => 12 | 5 => 15 | 6 => 7 | 7 => 3 | 8 => 8 | 9 => 12 | 10 => 3 | 11 => 7 | 12 => 65 | _ => 0
def refTy (t : FieldType) : Bool := match t with
  | .object _ => true | .array _ => true | _ => false
def tys7 (E : Nat → ClassId) : List (ClassId × FieldType) := [(E 0, .int), (E 1, .boolean), (E 2, .byte), (E 3, .object RX9), (E 4, .object RX2), (E 5, .object RX4), (E 6, .object RX3)]
def rf (b : Nat) (o : Option Nat) : Option Nat := o.map (fun k => b + k)
def fv (b : Nat) (h : Hs) (c j k : Nat) : Value := if refTy (tyOf c j) = true then va_rf (rf b (gR h (100 * c + j) k)) else .int (gI h (100 * c + j) k)
def fvs (b : Nat) (h : Hs) (c k : Nat) : List Value := (List.range (nF c)).map (fun j => fv b h c j k)
def ce (G : Gl) (h : Hs) (k : Nat) : va_E := if (sh h k).1 < 13 then .inr ((sh h k).1, fvs G.1 h (sh h k).1 k) else if (sh h k).1 < 23 then .inl (G.2.2 ((sh h k).1 - 20), (sh h k).2, .inl (aI h k)) else .inl (G.2.2 ((sh h k).1 - 20), (sh h k).2, .inr (.inr (.inr (.inr (fun j => rf G.1 (aR h k j))))))
def wsO (G : Gl) (h : Hs) : va_W := (List.range (sz h)).map (fun k => (G.1 + k, ce G h k))
def HP (G : Gl) (h : Hs) (H : Heap) : Prop := va_P G.2.1 cls13 (wsO G h) H ∧ H.size = G.1 + sz h ∧ ∀ a, sz h ≤ a → (sh h a).1 = 99
def AG (G : Gl) : Nat → Prop := fun q => G.1 ≤ q
theorem ws_at {G : Gl} {h : Hs} {k : Nat} (hk : k < sz h) : (wsO G h)[k]? = some (G.1 + k, ce G h k) := by
  simp [wsO, hk]
theorem ws_D (G : Gl) (h : Hs) : va_D (AG G) (wsO G h) := by
  refine ⟨fun i j p q hp hq e => ?_, fun k q hq => ?_⟩
  · simp only [wsO, List.getElem?_map, Option.map_eq_some_iff] at hp hq
    obtain ⟨a, ha, rfl⟩ := hp
    obtain ⟨b, hb, rfl⟩ := hq
    have h1 := (List.getElem?_eq_some_iff.mp ha).2
    have h2 := (List.getElem?_eq_some_iff.mp hb).2
    simp at h1 h2
    simp at e
    omega
  · simp only [wsO, List.getElem?_map, Option.map_eq_some_iff] at hq
    obtain ⟨a, ha, rfl⟩ := hq
    exact Nat.le_add_right _ _
theorem HP.lt {G : Gl} {h : Hs} {H : Heap} (hP : HP G h H) {a c : Nat} (hs : (sh h a).1 = c) (hc : c ≠ 99) : a < sz h := by
  rcases Nat.lt_or_ge a (sz h) with q | q
  · exact q
  · exact absurd ((hP.2.2 a q).symm.trans hs) (fun e => hc e.symm)
theorem ce_obj {G : Gl} {h : Hs} {k c : Nat} (hs : (sh h k).1 = c) (hc : c < 13) : ce G h k = .inr (c, fvs G.1 h c k) := by
  simp [ce, hs, hc]
theorem ce_int {G : Gl} {h : Hs} {k t : Nat} (hs : (sh h k).1 = 20 + t) (ht : t < 3) : ce G h k = .inl (G.2.2 t, (sh h k).2, .inl (aI h k)) := by
  have h1 : ¬ 20 + t < 13 := by omega
  have h2 : 20 + t < 23 := by omega
  have h3 : 20 + t - 20 = t := by omega
  simp only [ce, hs, h1, h2, h3, if_false, if_true]
theorem ce_ref {G : Gl} {h : Hs} {k t : Nat} (hs : (sh h k).1 = 20 + t) (ht : 3 ≤ t) : ce G h k = .inl (G.2.2 t, (sh h k).2, .inr (.inr (.inr (.inr (fun j => rf G.1 (aR h k j)))))) := by
  have h1 : ¬ 20 + t < 13 := by omega
  have h2 : ¬ 20 + t < 23 := by omega
  have h3 : 20 + t - 20 = t := by omega
  simp only [ce, hs, h1, h2, h3, if_false]
theorem ws_set {G : Gl} {h h' : Hs} {a : Nat} (ha : a < sz h) (hz : sz h' = sz h) (ho : ∀ k, k < sz h → k ≠ a → ce G h' k = ce G h k) : (wsO G h).set a (G.1 + a, ce G h' a) = wsO G h' := by
  apply List.ext_getElem?
  intro i
  by_cases hi : i < sz h
  · rw [ws_at (h := h') (by rw [hz]; exact hi)]
    by_cases e : i = a
    · subst e
      rw [List.getElem?_set_self (by simp [wsO, hi])]
    · rw [List.getElem?_set_ne (fun q => e q.symm), ws_at hi, ho i hi e]
  · rw [List.getElem?_eq_none (by simp [wsO]; omega), List.getElem?_eq_none (by simp [wsO]; omega)]
theorem sh_uI (h : Hs) (f a : Nat) (v : Int32) (k : Nat) : sh (uI h f a v) k = sh h k := rfl
theorem sh_uR (h : Hs) (f a : Nat) (v : Option Nat) (k : Nat) : sh (uR h f a v) k = sh h k := rfl
theorem sh_uA (h : Hs) (a j : Nat) (v : Int32) (k : Nat) : sh (uA h a j v) k = sh h k := rfl
theorem sh_uQ (h : Hs) (a j : Nat) (v : Option Nat) (k : Nat) : sh (uQ h a j v) k = sh h k := rfl
theorem ce_congr {G : Gl} {h h' : Hs} {k : Nat} (hs : sh h' k = sh h k) (h1 : ∀ f, gI h' f k = gI h f k) (h2 : ∀ f, gR h' f k = gR h f k) (h3 : aI h' k = aI h k) (h4 : aR h' k = aR h k) : ce G h' k = ce G h k := by
  simp only [ce, hs, fvs, fv, h1, h2, h3, h4]
theorem ce_uI {G : Gl} {h : Hs} {f a : Nat} {v : Int32} {k : Nat} (hk : k ≠ a) : ce G (uI h f a v) k = ce G h k := ce_congr rfl (fun f' => by simp [uI, gI, hk]) (fun _ => rfl) rfl rfl
theorem ce_uR {G : Gl} {h : Hs} {f a : Nat} {v : Option Nat} {k : Nat} (hk : k ≠ a) : ce G (uR h f a v) k = ce G h k := ce_congr rfl (fun _ => rfl) (fun f' => by simp [uR, gR, hk]) rfl rfl
theorem ce_uA {G : Gl} {h : Hs} {a j : Nat} {v : Int32} {k : Nat} (hk : k ≠ a) : ce G (uA h a j v) k = ce G h k := ce_congr rfl (fun _ => rfl) (fun _ => rfl) (by funext q; simp [uA, aI, hk]) rfl
theorem ce_uQ {G : Gl} {h : Hs} {a j : Nat} {v : Option Nat} {k : Nat} (hk : k ≠ a) : ce G (uQ h a j v) k = ce G h k := ce_congr rfl (fun _ => rfl) (fun _ => rfl) rfl (by funext q; simp [uQ, aR, hk])
theorem fvs_uI {b : Nat} {h : Hs} {c j k : Nat} {v : Int32} (hj : j < nF c) (hr : refTy (tyOf c j) = false) : fvs b (uI h (100 * c + j) k v) c k = (fvs b h c k).set j (.int v) := by
  apply List.ext_getElem?
  intro i
  by_cases hi : i < nF c
  · by_cases e : i = j
    · subst e
      rw [List.getElem?_set_self (by simp [fvs, hi])]
      simp [fvs, hi, fv, hr, uI, gI]
    · rw [List.getElem?_set_ne (fun q => e q.symm)]
      have e2 : ¬ 100 * c + i = 100 * c + j := by omega
      simp [fvs, hi, fv, uI, gI, gR, e]
  · rw [List.getElem?_eq_none (by simp [fvs]; omega), List.getElem?_eq_none (by simp [fvs]; omega)]
theorem fvs_uR {b : Nat} {h : Hs} {c j k : Nat} {v : Option Nat} (hj : j < nF c) (hr : refTy (tyOf c j) = true) : fvs b (uR h (100 * c + j) k v) c k = (fvs b h c k).set j (va_rf (rf b v)) := by
  apply List.ext_getElem?
  intro i
  by_cases hi : i < nF c
  · by_cases e : i = j
    · subst e
      rw [List.getElem?_set_self (by simp [fvs, hi])]
      simp [fvs, hi, fv, hr, uR, gR]
    · rw [List.getElem?_set_ne (fun q => e q.symm)]
      simp [fvs, hi, fv, uR, gI, gR, e]
  · rw [List.getElem?_eq_none (by simp [fvs]; omega), List.getElem?_eq_none (by simp [fvs]; omega)]
theorem fvs_at {b : Nat} {h : Hs} {c j k : Nat} (hj : j < nF c) : (fvs b h c k)[j]? = some (fv b h c j k) := by
  simp [fvs, hj]
end
section
def gtb : List Cond := lw_tbl.filter goodWord
theorem gtb_mem {i : Nat} {w : Cond} (h : lw_tbl[i]? = some w) (hg : goodWord w = true) : w ∈ gtb := List.mem_filter.mpr ⟨List.mem_of_getElem? h, hg⟩
theorem gtb_good {w : Cond} (h : w ∈ gtb) : goodWord w = true := (List.mem_filter.mp h).2
def nws : List (String × Nat × MethodName × String) := [("StageMachine", 9, ⟨"StageMachine$Tape", "<init>", "()V"⟩, "StageMachine"), ("StageMachine", 18, ⟨"StageMachine$Candles", "<init>", "()V"⟩, "StageMachine"), ("StageMachine", 25, ⟨"StageMachine$Stock", "<init>", "()V"⟩, "StageMachine"), ("StageMachine", 32, ⟨"StageMachine$Stage", "<init>", "()V"⟩, "StageMachine"), ("StageMachine$Turning", 11, ⟨"StageMachine$Stop", "<init>", "()V"⟩, "StageMachine"), ("StageMachine$Stage", 50, ⟨"StageMachine", "isWithin", "(III)Z"⟩, "StageMachine"), ("StageMachine$Stage", 93, ⟨"StageMachine", "overlap", "(IIII)Z"⟩, "StageMachine"), ("StageMachine$Rope", 53, ⟨"StageMachine", "quotientUp", "(II)I"⟩, "StageMachine"), ("StageMachine$Rope", 57, ⟨"StageMachine", "quotient", "(II)I"⟩, "StageMachine"), ("StageMachine$Turning", 112, ⟨"StageMachine", "isWithin", "(III)Z"⟩, "StageMachine"), ("StageMachine$Thing", 60, ⟨"StageMachine", "overlap", "(IIII)Z"⟩, "StageMachine"), ("StageMachine$Thing", 53, ⟨"StageMachine", "isWithin", "(III)Z"⟩, "StageMachine"), ("StageMachine$Change", 25, ⟨"StageMachine", "isWithin", "(III)Z"⟩, "StageMachine"), ("StageMachine$Change", 29, ⟨"StageMachine", "isTurn", "(I)Z"⟩, "StageMachine"), ("StageMachine$Change", 152, ⟨"StageMachine", "quotient", "(II)I"⟩, "StageMachine"), ("StageMachine$Tape", 24, ⟨"StageMachine", "isWithin", "(III)Z"⟩, "StageMachine"), ("StageMachine$Candles", 18, ⟨"StageMachine", "isWithin", "(III)Z"⟩, "StageMachine"), ("StageMachine$Stock", 41, ⟨"StageMachine", "isWithin", "(III)Z"⟩, "StageMachine")]
theorem nws_ok : ∀ q ∈ nws, Cond.methodLinkNest q.1 q.2.1 q.2.2.1 q.2.2.2 ∈ lw_tbl := by
  have h : nws.map (fun q => Cond.methodLinkNest q.1 q.2.1 q.2.2.1 q.2.2.2) = [84, 121, 142, 173, 254, 346, 356, 553, 627, 666, 675, 755, 764, 765, 835, 844, 905, 949].filterMap (fun i => lw_tbl[i]?) := by decide +kernel
  intro q hq
  have h1 : Cond.methodLinkNest q.1 q.2.1 q.2.2.1 q.2.2.2 ∈ nws.map (fun q => Cond.methodLinkNest q.1 q.2.1 q.2.2.1 q.2.2.2) := List.mem_map.mpr ⟨q, hq, rfl⟩
  rw [h] at h1
  obtain ⟨i, -, hi⟩ := List.mem_filterMap.mp h1
  exact List.mem_of_getElem? hi
def NW (U : State) : Prop := (∀ q ∈ nws, va_Nw (.methodLinkNest q.1 q.2.1 q.2.2.1 q.2.2.2) U) ∧ va_AO RX9 U ∧ va_AO RX2 U ∧ va_AO RX4 U ∧ va_AO RX3 U
theorem NW.warm {s U : State} (h : NW s) (hW : s.WarmedH U.vm) : NW U := ⟨fun q hq => va_Nw.warmM hW (h.1 q hq), h.2.1.moved hW.alike, h.2.2.1.moved hW.alike, h.2.2.2.1.moved hW.alike, h.2.2.2.2.moved hW.alike⟩
/-! words: an int, or a reference -/
abbrev Wd : Type := Int32 ⊕ Option Nat
def vl (b : Nat) (w : Wd) : Value := match w with
  | .inl x => .int x
  | .inr o => va_rf (rf b o)
theorem vl_cat (b : Nat) (w : Wd) : (vl b w).category = 1 := by
  rcases w with x | _ | o <;> rfl
def LV (b : Nat) (ls : Array Slot) (nL : Nat) (lv : List (Option Wd)) : Prop := ls.size = nL ∧ lv_wf ls ∧ ∀ (i : Nat) (w : Wd), lv[i]? = some (some w) → ls[i]? = some (.val (vl b w))
theorem LV.store {b nL : Nat} {ls : Array Slot} {lv : List (Option Wd)} (h : LV b ls nL lv) {i : Nat} (hi : i < nL) (w : Wd) : ∃ ls', storeLocals ls i (vl b w) = some ls' ∧ LV b ls' nL (lv.set i (some w)) := by
  obtain ⟨ls', e, h'⟩ := lv_store1 (l := []) (v := vl b w) ⟨h.1, h.2.1, fun q hq => absurd hq List.not_mem_nil⟩ hi (vl_cat b w)
  refine ⟨ls', e, h'.1, h'.2.1, fun j w' hj => ?_⟩
  by_cases hji : j = i
  · subst hji
    rw [List.getElem?_set] at hj
    simp only [if_true] at hj
    split at hj
    · cases hj
      exact h'.2.2 (j, vl b w) List.mem_cons_self
    · cases hj
  · rw [List.getElem?_set_ne (fun q => hji q.symm)] at hj
    obtain ⟨ls2, e2, h2⟩ := lv_store1 (l := [(j, vl b w')]) (v := vl b w) ⟨h.1, h.2.1, fun q hq => by rw [List.mem_singleton.mp hq]; exact h.2.2 j w' hj⟩ hi (vl_cat b w)
    have e3 : ls2 = ls' := Option.some.inj (e2.symm.trans e)
    rw [e3] at h2
    refine h2.2.2 (j, vl b w') (List.mem_cons_of_mem _ (List.mem_filter.mpr ⟨List.mem_singleton.mpr rfl, ?_⟩))
    have h1 : (j == i) = false := by simpa using hji
    simp [h1, vl_cat]
/-! fewer known locals -/
def LW : List (Option Wd) → List (Option Wd) → Prop
  | [], _ => True
  | none :: a, b => LW a b.tail
  | some v :: a, b => b.head? = some (some v) ∧ LW a b.tail
theorem LW.at : ∀ {a b : List (Option Wd)}, LW a b → ∀ (i : Nat) (w : Wd), a[i]? = some (some w) → b[i]? = some (some w)
  | [], _, _, i, w, h => by simp at h
  | none :: a, b, hl, 0, w, h => by simp at h
  | none :: a, b, hl, i + 1, w, h => by
    have h1 := LW.at (a := a) (b := b.tail) hl i w (by simpa using h)
    simpa using h1
  | some v :: a, b, hl, 0, w, h => by
    simp at h
    subst h
    have := hl.1
    cases b <;> simp_all
  | some v :: a, b, hl, i + 1, w, h => by
    have h1 := LW.at (a := a) (b := b.tail) hl.2 i w (by simpa using h)
    simpa using h1
theorem LV.sub {b nL : Nat} {ls : Array Slot} {lv lv' : List (Option Wd)} (h : LV b ls nL lv) (hl : LW lv' lv) : LV b ls nL lv' := ⟨h.1, h.2.1, fun i w hi => h.2.2 i w (hl.at i w hi)⟩
/-! the operations, as partial functions of my heap -/
def oI (c j : Nat) (h : Hs) (o : Option Nat) : Option Int32 := match o with
  | none => none
  | some a => if (sh h a).1 = c then some (gI h (100 * c + j) a) else none
def oR (c j : Nat) (h : Hs) (o : Option Nat) : Option (Option Nat) := match o with
  | none => none
  | some a => if (sh h a).1 = c then some (gR h (100 * c + j) a) else none
def qI (c j : Nat) (h : Hs) (o : Option Nat) (v : Int32) : Option Hs := match o with
  | none => none
  | some a => if (sh h a).1 = c then some (uI h (100 * c + j) a v) else none
def qZ (c j : Nat) (h : Hs) (o : Option Nat) (v : Int32) : Option Hs := match o with
  | none => none
  | some a => if (sh h a).1 = c ∧ (v = 0 ∨ v = 1) then some (uI h (100 * c + j) a v) else none
def qR (c j : Nat) (h : Hs) (o v : Option Nat) : Option Hs := match o with
  | none => none
  | some a => if (sh h a).1 = c then some (uR h (100 * c + j) a v) else none
def ix (i : Int32) (n : Nat) : Prop := 0 ≤ i.toInt ∧ i.toInt < n
def ixb (i : Int32) (n : Nat) : Bool := decide (0 ≤ i.toInt) && decide (i.toInt < n)
theorem ixb_in {i : Int32} {n : Nat} (h : ixb i n = true) : vp_in i n := vp_in_iff.mpr (by simpa [ixb] using h)
def lA (t : Nat) (h : Hs) (o : Option Nat) (i : Int32) : Option Int32 := match o with
  | none => none
  | some a => if (sh h a).1 = t ∧ ixb i (sh h a).2 = true then some (aI h a i.toNatClampNeg) else none
def lQ (t : Nat) (h : Hs) (o : Option Nat) (i : Int32) : Option (Option Nat) := match o with
  | none => none
  | some a => if (sh h a).1 = t ∧ ixb i (sh h a).2 = true then some (aR h a i.toNatClampNeg) else none
def sA (h : Hs) (o : Option Nat) (i v : Int32) : Option Hs := match o with
  | none => none
  | some a => if (sh h a).1 = 20 ∧ ixb i (sh h a).2 = true then some (uA h a i.toNatClampNeg v) else none
def sZ (h : Hs) (o : Option Nat) (i v : Int32) : Option Hs := match o with
  | none => none
  | some a => if (sh h a).1 = 21 ∧ ixb i (sh h a).2 = true then some (uA h a i.toNatClampNeg (vp_nar .boolean v)) else none
def sB (h : Hs) (o : Option Nat) (i v : Int32) : Option Hs := match o with
  | none => none
  | some a => if (sh h a).1 = 22 ∧ ixb i (sh h a).2 = true then some (uA h a i.toNatClampNeg (vp_nar .byte v)) else none
def sQ (t c : Nat) (h : Hs) (o : Option Nat) (i : Int32) (v : Option Nat) : Option Hs := match o, v with
  | some a, some q => if (sh h a).1 = t ∧ ixb i (sh h a).2 = true ∧ (sh h q).1 = c then some (uQ h a i.toNatClampNeg (some q)) else none
  | _, _ => none
def oL (h : Hs) (o : Option Nat) : Option Int32 := match o with
  | none => none
  | some a => if (sh h a).1 = 20 then some (Int32.ofNat (sh h a).2) else none
def dv (x y : Int32) : Option Int32 := if y = 0 then none else some (x / y)
def rmd (x y : Int32) : Option Int32 := if y = 0 then none else some (x - x / y * y)
def rc (c : Nat) (h : Hs) (o : Option Nat) : Option Nat := match o with
  | none => none
  | some a => if (sh h a).1 = c then some a else none
def zc (v : Int32) : Option Int32 := if v = 0 ∨ v = 1 then some v else none
def cpA (h : Hs) (o : Option Nat) (sp : Int32) (o2 : Option Nat) (dp n : Int32) : Option Hs := match o, o2 with
  | some a, some q => if (sh h a).1 = 20 ∧ (sh h q).1 = 20 ∧ ¬ sp < 0 ∧ ¬ dp < 0 ∧ ¬ n < 0 ∧ sp.toNatClampNeg + n.toNatClampNeg ≤ (sh h a).2 ∧ dp.toNatClampNeg + n.toNatClampNeg ≤ (sh h q).2 then some (h.1, h.2.1, (fun a' j' => if a' = q then va_cpy (aI h a) (aI h q) sp.toNatClampNeg dp.toNatClampNeg n.toNatClampNeg j' else h.2.2.1 a' j'), h.2.2.2) else none
  | _, _ => none
/-! class facts -/
def FC (c : Nat) (C : String) (T : u_T) (N : Nat) (ty : Nat → FieldType) : Prop := cls13[c]? = some (C, T, N) ∧ (∀ w ∈ u_ws C T N, w ∈ gtb) ∧ (∀ k, k < N → parseFieldDescriptor (T k).2.2.1 = some (ty k)) ∧ (∀ a, a < N → ∀ b, b < N → a ≠ b → (T a).2.1 ≠ (T b).2.1) ∧ nF c = N ∧ c < 13 ∧ tyOf c = ty
/-- a field's link -/
def FL (own : String) (idx c j : Nat) : Prop := ∃ (C : String) (T : u_T) (N : Nat) (ty : Nat → FieldType), FC c C T N ty ∧ j < N ∧ Cond.fieldLink own idx (T j).1 (T j).2.1 (T j).2.2.1 ∈ gtb
/-- it may be written: not final -/
def FN (c j : Nat) : Prop := ∀ q, cls13[c]? = some q → (q.2.1 j).2.2.2 = false
/-- final, of this class -/
def FF (own : String) (c j : Nat) : Prop := ∀ q, cls13[c]? = some q → (q.2.1 j).2.2.2 = true ∧ (q.2.1 j).1 = own
def Cx (p : Program) (s : State) (m : MethodId) (args : Array Value) (meth : Method) (c : Code) (cc : ByteArray) (own : String) (nL : Nat) (G : Gl) : Prop :=
  p.tables.exec = Jvm.exec ∧ c.code = cc ∧ c.maxLocals = nL ∧ s.vm.findClass own = some m.cls ∧ (∀ w ∈ gtb, w.before args s = true) ∧ va_K G.2.1 cls13 (tys7 G.2.2) s ∧ NW s ∧ meth.locks = false ∧ G.1 ≤ s.heap.size
def V (p : Program) (l : Launch) (e : Env) (R : Room) (s : State) (m : MethodId) (args : Array Value) (below : List Frame) (meth : Method) (c : Code) (G : Gl) (nL : Nat) (Q : State → Prop) (h : Hs) (cells slots pc : Nat) (lv : List (Option Wd)) (st : List Wd) : Prop :=
  ∀ (H : Heap) (locs : List Loc) (ls : Array Slot), HP G h H → va_S (AG G) s.heap H locs → LV G.1 ls nL lv → W p l e R s m args below meth c H locs cells slots Q (F0 m pc ls (st.map (vl G.1)))
theorem bS {α β : Type} {x : Option α} {f : α → Option β} {r : β} (h : x.bind f = some r) : ∃ a, x = some a ∧ f a = some r := Option.bind_eq_some_iff.mp h
section Rows
variable {p : Program} {l : Launch} {e : Env} {R : Room} {s : State} {m : MethodId} {args : Array Value} {below : List Frame} {meth : Method} {c : Code} {cc : ByteArray} {own : String} {G : Gl} {nL : Nat} {Q : State → Prop} {h : Hs} {cells slots pc : Nat} {lv : List (Option Wd)} {st : List Wd}
theorem V.sub {lv' : List (Option Wd)} (k : V p l e R s m args below meth c G nL Q h cells slots pc lv' st) (hl : LW lv' lv) : V p l e R s m args below meth c G nL Q h cells slots pc lv st := fun H locs ls hH hS hL => k H locs ls hH hS (hL.sub hl)
theorem r_iconst (C : Cx p s m args meth c cc own nL G) {n : Int} {v : Int32} (d : decode cc pc = .ok (.iconst n, 1)) (hv : Int32.ofInt n = v) (k : V p l e R s m args below meth c G nL Q h cells slots (pc + 1) lv (.inl v :: st)) : V p l e R s m args below meth c G nL Q h cells slots pc lv st := fun H locs ls hH hS hL => lv_iconst C.1 C.2.1 d hv (k H locs ls hH hS hL)
theorem r_bipush (C : Cx p s m args meth c cc own nL G) {n : Int} {v : Int32} (d : decode cc pc = .ok (.bipush n, 2)) (hv : (Int8.ofInt n).toInt32 = v) (k : V p l e R s m args below meth c G nL Q h cells slots (pc + 2) lv (.inl v :: st)) : V p l e R s m args below meth c G nL Q h cells slots pc lv st := fun H locs ls hH hS hL => lv_bipush C.1 C.2.1 d hv (k H locs ls hH hS hL)
theorem r_sipush (C : Cx p s m args meth c cc own nL G) {n : Int} {v : Int32} (d : decode cc pc = .ok (.sipush n, 3)) (hv : (Int16.ofInt n).toInt32 = v) (k : V p l e R s m args below meth c G nL Q h cells slots (pc + 3) lv (.inl v :: st)) : V p l e R s m args below meth c G nL Q h cells slots pc lv st := fun H locs ls hH hS hL => lv_sipush C.1 C.2.1 d hv (k H locs ls hH hS hL)
theorem r_ldc (C : Cx p s m args meth c cc own nL G) {i : Nat} {v : Int32} (d : decode cc pc = .ok (.ldc i, 2)) (hv : Cond.constant own i v ∈ gtb) (k : V p l e R s m args below meth c G nL Q h cells slots (pc + 2) lv (.inl v :: st)) : V p l e R s m args below meth c G nL Q h cells slots pc lv st := fun H locs ls hH hS hL => lv_ldc C.1 C.2.1 C.2.2.2.1 (C.2.2.2.2.1 _ hv) d (k H locs ls hH hS hL)
theorem r_ldcw (C : Cx p s m args meth c cc own nL G) {i : Nat} {v : Int32} (d : decode cc pc = .ok (.ldc_w i, 3)) (hv : Cond.constant own i v ∈ gtb) (k : V p l e R s m args below meth c G nL Q h cells slots (pc + 3) lv (.inl v :: st)) : V p l e R s m args below meth c G nL Q h cells slots pc lv st := fun H locs ls hH hS hL => lv_ldcw C.1 C.2.1 C.2.2.2.1 (C.2.2.2.2.1 _ hv) d (k H locs ls hH hS hL)
theorem r_iload_n (C : Cx p s m args meth c cc own nL G) {i : Fin 4} {x : Int32} (d : decode cc pc = .ok (.iload_n i, 1)) (hl : lv[(i : Nat)]? = some (some (.inl x))) (k : V p l e R s m args below meth c G nL Q h cells slots (pc + 1) lv (.inl x :: st)) : V p l e R s m args below meth c G nL Q h cells slots pc lv st := fun H locs ls hH hS hL => lv_iload_n C.1 C.2.1 d rfl (hL.2.2 _ _ hl) (k H locs ls hH hS hL)
theorem r_iload (C : Cx p s m args meth c cc own nL G) {i : Nat} {x : Int32} (d : decode cc pc = .ok (.iload i, 2)) (hl : lv[i]? = some (some (.inl x))) (k : V p l e R s m args below meth c G nL Q h cells slots (pc + 2) lv (.inl x :: st)) : V p l e R s m args below meth c G nL Q h cells slots pc lv st := fun H locs ls hH hS hL => lv_iload C.1 C.2.1 d (hL.2.2 _ _ hl) (k H locs ls hH hS hL)
theorem r_aload_n (C : Cx p s m args meth c cc own nL G) {i : Fin 4} {o : Option Nat} (d : decode cc pc = .ok (.aload_n i, 1)) (hl : lv[(i : Nat)]? = some (some (.inr o))) (k : V p l e R s m args below meth c G nL Q h cells slots (pc + 1) lv (.inr o :: st)) : V p l e R s m args below meth c G nL Q h cells slots pc lv st := by
  intro H locs ls hH hS hL
  have h1 := hL.2.2 _ _ hl
  have h2 := k H locs ls hH hS hL
  cases o with
  | none => exact lv_aload_nN C.1 C.2.1 d rfl h1 h2
  | some a => exact lv_aload_n C.1 C.2.1 d rfl h1 h2
theorem r_aload (C : Cx p s m args meth c cc own nL G) {i : Nat} {o : Option Nat} (d : decode cc pc = .ok (.aload i, 2)) (hl : lv[i]? = some (some (.inr o))) (k : V p l e R s m args below meth c G nL Q h cells slots (pc + 2) lv (.inr o :: st)) : V p l e R s m args below meth c G nL Q h cells slots pc lv st := by
  intro H locs ls hH hS hL
  have h1 := hL.2.2 _ _ hl
  have h2 := k H locs ls hH hS hL
  cases o with
  | none => exact lv_aloadN C.1 C.2.1 d h1 h2
  | some a => exact lv_aload C.1 C.2.1 d h1 h2
section Ws
variable {H : Heap} {locs : List Loc} {ls : Array Slot} {rest : List Value}
theorem w_istore_n (hexec : p.tables.exec = Jvm.exec) (hb : c.code = cc) {i : Fin 4} {x : Int32} (hdg : decode cc pc = .ok (.istore_n i, 1)) {ls' : Array Slot} (e' : storeLocals ls (i : Nat) (.int x) = some ls') (kk : W p l e R s m args below meth c H locs cells slots Q (F0 m (pc + 1) ls' rest)) : W p l e R s m args below meth c H locs cells slots Q (F0 m pc ls (.int x :: rest)) := by
  intro T hT X
  obtain ⟨t, a, b⟩ := kk T hT X
  refine ⟨t, ?_, b⟩
  jvm_step X.here [X.here.top, ↓top_set X.here.top, hexec, hb, hdg, e']
  exact a
theorem w_istore (hexec : p.tables.exec = Jvm.exec) (hb : c.code = cc) {i : Nat} {x : Int32} (hdg : decode cc pc = .ok (.istore i, 2)) {ls' : Array Slot} (e' : storeLocals ls i (.int x) = some ls') (kk : W p l e R s m args below meth c H locs cells slots Q (F0 m (pc + 2) ls' rest)) : W p l e R s m args below meth c H locs cells slots Q (F0 m pc ls (.int x :: rest)) := by
  intro T hT X
  obtain ⟨t, a, b⟩ := kk T hT X
  refine ⟨t, ?_, b⟩
  jvm_step X.here [X.here.top, ↓top_set X.here.top, hexec, hb, hdg, e']
  exact a
theorem w_astore_n (hexec : p.tables.exec = Jvm.exec) (hb : c.code = cc) {i : Fin 4} {o : Option Nat} (hdg : decode cc pc = .ok (.astore_n i, 1)) {ls' : Array Slot} (e' : storeLocals ls (i : Nat) (va_rf o) = some ls') (kk : W p l e R s m args below meth c H locs cells slots Q (F0 m (pc + 1) ls' rest)) : W p l e R s m args below meth c H locs cells slots Q (F0 m pc ls (va_rf o :: rest)) := by
  intro T hT X
  obtain ⟨t, a, b⟩ := kk T hT X
  refine ⟨t, ?_, b⟩
  cases o <;> (simp only [va_rf] at e' ⊢; jvm_step X.here [X.here.top, ↓top_set X.here.top, hexec, hb, hdg, e', Value.isRef]; exact a)
theorem w_astore (hexec : p.tables.exec = Jvm.exec) (hb : c.code = cc) {i : Nat} {o : Option Nat} (hdg : decode cc pc = .ok (.astore i, 2)) {ls' : Array Slot} (e' : storeLocals ls i (va_rf o) = some ls') (kk : W p l e R s m args below meth c H locs cells slots Q (F0 m (pc + 2) ls' rest)) : W p l e R s m args below meth c H locs cells slots Q (F0 m pc ls (va_rf o :: rest)) := by
  intro T hT X
  obtain ⟨t, a, b⟩ := kk T hT X
  refine ⟨t, ?_, b⟩
  cases o <;> (simp only [va_rf] at e' ⊢; jvm_step X.here [X.here.top, ↓top_set X.here.top, hexec, hb, hdg, e', Value.isRef]; exact a)
theorem w_iinc (hexec : p.tables.exec = Jvm.exec) (hb : c.code = cc) {i : Nat} {n : Int} {x : Int32} (hdg : decode cc pc = .ok (.iinc i n, 3)) (hg : ls[i]? = some (.val (.int x))) {ls' : Array Slot} (e' : storeLocals ls i (.int (x + Int32.ofInt n)) = some ls') (kk : W p l e R s m args below meth c H locs cells slots Q (F0 m (pc + 3) ls' rest)) : W p l e R s m args below meth c H locs cells slots Q (F0 m pc ls rest) := by
  intro T hT X
  obtain ⟨t, a, b⟩ := kk T hT X
  refine ⟨t, ?_, b⟩
  jvm_step X.here [X.here.top, ↓top_set X.here.top, hexec, hb, hdg, hg, e']
  exact a
end Ws
theorem r_istore_n (C : Cx p s m args meth c cc own nL G) {i : Fin 4} {x : Int32} (d : decode cc pc = .ok (.istore_n i, 1)) (hi : (i : Nat) < nL) (k : V p l e R s m args below meth c G nL Q h cells slots (pc + 1) (lv.set i (some (.inl x))) st) : V p l e R s m args below meth c G nL Q h cells slots pc lv (.inl x :: st) := by
  intro H locs ls hH hS hL
  obtain ⟨ls', e', h'⟩ := hL.store hi (.inl x)
  exact w_istore_n C.1 C.2.1 d e' (k H locs ls' hH hS h')
theorem r_istore (C : Cx p s m args meth c cc own nL G) {i : Nat} {x : Int32} (d : decode cc pc = .ok (.istore i, 2)) (hi : i < nL) (k : V p l e R s m args below meth c G nL Q h cells slots (pc + 2) (lv.set i (some (.inl x))) st) : V p l e R s m args below meth c G nL Q h cells slots pc lv (.inl x :: st) := by
  intro H locs ls hH hS hL
  obtain ⟨ls', e', h'⟩ := hL.store hi (.inl x)
  exact w_istore C.1 C.2.1 d e' (k H locs ls' hH hS h')
theorem r_astore_n (C : Cx p s m args meth c cc own nL G) {i : Fin 4} {o : Option Nat} (d : decode cc pc = .ok (.astore_n i, 1)) (hi : (i : Nat) < nL) (k : V p l e R s m args below meth c G nL Q h cells slots (pc + 1) (lv.set i (some (.inr o))) st) : V p l e R s m args below meth c G nL Q h cells slots pc lv (.inr o :: st) := by
  intro H locs ls hH hS hL
  obtain ⟨ls', e', h'⟩ := hL.store hi (.inr o)
  exact w_astore_n C.1 C.2.1 d e' (k H locs ls' hH hS h')
theorem r_astore (C : Cx p s m args meth c cc own nL G) {i : Nat} {o : Option Nat} (d : decode cc pc = .ok (.astore i, 2)) (hi : i < nL) (k : V p l e R s m args below meth c G nL Q h cells slots (pc + 2) (lv.set i (some (.inr o))) st) : V p l e R s m args below meth c G nL Q h cells slots pc lv (.inr o :: st) := by
  intro H locs ls hH hS hL
  obtain ⟨ls', e', h'⟩ := hL.store hi (.inr o)
  exact w_astore C.1 C.2.1 d e' (k H locs ls' hH hS h')
theorem r_iinc (C : Cx p s m args meth c cc own nL G) {i : Nat} {n : Int} {x v : Int32} (d : decode cc pc = .ok (.iinc i n, 3)) (hl : lv[i]? = some (some (.inl x))) (hv : Int32.ofInt n = v) (hi : i < nL) (k : V p l e R s m args below meth c G nL Q h cells slots (pc + 3) (lv.set i (some (.inl (x + v)))) st) : V p l e R s m args below meth c G nL Q h cells slots pc lv st := by
  subst hv
  intro H locs ls hH hS hL
  obtain ⟨ls', e', h'⟩ := hL.store hi (.inl (x + Int32.ofInt n))
  exact w_iinc C.1 C.2.1 d (hL.2.2 _ _ hl) e' (k H locs ls' hH hS h')
theorem r_null (C : Cx p s m args meth c cc own nL G) (d : decode cc pc = .ok (.aconst_null, 1)) (k : V p l e R s m args below meth c G nL Q h cells slots (pc + 1) lv (.inr none :: st)) : V p l e R s m args below meth c G nL Q h cells slots pc lv st := fun H locs ls hH hS hL => lv_null C.1 C.2.1 d (k H locs ls hH hS hL)
theorem r_iadd (C : Cx p s m args meth c cc own nL G) {x y : Int32} (d : decode cc pc = .ok (.iadd, 1)) (k : V p l e R s m args below meth c G nL Q h cells slots (pc + 1) lv (.inl (x + y) :: st)) : V p l e R s m args below meth c G nL Q h cells slots pc lv (.inl y :: .inl x :: st) := fun H locs ls hH hS hL => lv_iadd C.1 C.2.1 d (k H locs ls hH hS hL)
theorem r_isub (C : Cx p s m args meth c cc own nL G) {x y : Int32} (d : decode cc pc = .ok (.isub, 1)) (k : V p l e R s m args below meth c G nL Q h cells slots (pc + 1) lv (.inl (x - y) :: st)) : V p l e R s m args below meth c G nL Q h cells slots pc lv (.inl y :: .inl x :: st) := fun H locs ls hH hS hL => lv_isub C.1 C.2.1 d (k H locs ls hH hS hL)
theorem r_imul (C : Cx p s m args meth c cc own nL G) {x y : Int32} (d : decode cc pc = .ok (.imul, 1)) (k : V p l e R s m args below meth c G nL Q h cells slots (pc + 1) lv (.inl (x * y) :: st)) : V p l e R s m args below meth c G nL Q h cells slots pc lv (.inl y :: .inl x :: st) := fun H locs ls hH hS hL => lv_imul C.1 C.2.1 d (k H locs ls hH hS hL)
theorem r_iand (C : Cx p s m args meth c cc own nL G) {x y : Int32} (d : decode cc pc = .ok (.iand, 1)) (k : V p l e R s m args below meth c G nL Q h cells slots (pc + 1) lv (.inl (x &&& y) :: st)) : V p l e R s m args below meth c G nL Q h cells slots pc lv (.inl y :: .inl x :: st) := fun H locs ls hH hS hL => lv_iand C.1 C.2.1 d (k H locs ls hH hS hL)
theorem r_ior (C : Cx p s m args meth c cc own nL G) {x y : Int32} (d : decode cc pc = .ok (.ior, 1)) (k : V p l e R s m args below meth c G nL Q h cells slots (pc + 1) lv (.inl (x ||| y) :: st)) : V p l e R s m args below meth c G nL Q h cells slots pc lv (.inl y :: .inl x :: st) := fun H locs ls hH hS hL => lv_ior C.1 C.2.1 d (k H locs ls hH hS hL)
theorem r_ishl (C : Cx p s m args meth c cc own nL G) {x y : Int32} (d : decode cc pc = .ok (.ishl, 1)) (k : V p l e R s m args below meth c G nL Q h cells slots (pc + 1) lv (.inl (x <<< (y &&& 31)) :: st)) : V p l e R s m args below meth c G nL Q h cells slots pc lv (.inl y :: .inl x :: st) := fun H locs ls hH hS hL => lv_ishl C.1 C.2.1 d (k H locs ls hH hS hL)
theorem r_ishr (C : Cx p s m args meth c cc own nL G) {x y : Int32} (d : decode cc pc = .ok (.ishr, 1)) (k : V p l e R s m args below meth c G nL Q h cells slots (pc + 1) lv (.inl (x >>> (y &&& 31)) :: st)) : V p l e R s m args below meth c G nL Q h cells slots pc lv (.inl y :: .inl x :: st) := fun H locs ls hH hS hL => lv_ishr C.1 C.2.1 d (k H locs ls hH hS hL)
theorem r_iushr (C : Cx p s m args meth c cc own nL G) {x y : Int32} (d : decode cc pc = .ok (.iushr, 1)) (k : V p l e R s m args below meth c G nL Q h cells slots (pc + 1) lv (.inl ((x.toUInt32 >>> (y.toUInt32 &&& Int32.toUInt32 31)).toInt32) :: st)) : V p l e R s m args below meth c G nL Q h cells slots pc lv (.inl y :: .inl x :: st) := fun H locs ls hH hS hL => lv_iushr C.1 C.2.1 d rfl (k H locs ls hH hS hL)
theorem r_ineg (C : Cx p s m args meth c cc own nL G) {x : Int32} (d : decode cc pc = .ok (.ineg, 1)) (k : V p l e R s m args below meth c G nL Q h cells slots (pc + 1) lv (.inl (-x) :: st)) : V p l e R s m args below meth c G nL Q h cells slots pc lv (.inl x :: st) := fun H locs ls hH hS hL => lv_ineg C.1 C.2.1 d (k H locs ls hH hS hL)
theorem r_i2b (C : Cx p s m args meth c cc own nL G) {x : Int32} (d : decode cc pc = .ok (.i2b, 1)) (k : V p l e R s m args below meth c G nL Q h cells slots (pc + 1) lv (.inl (x.toInt8.toInt32) :: st)) : V p l e R s m args below meth c G nL Q h cells slots pc lv (.inl x :: st) := fun H locs ls hH hS hL => lv_i2b C.1 C.2.1 d rfl (k H locs ls hH hS hL)
theorem r_idiv (C : Cx p s m args meth c cc own nL G) {x y v : Int32} (d : decode cc pc = .ok (.idiv, 1)) (eq : dv x y = some v) (k : V p l e R s m args below meth c G nL Q h cells slots (pc + 1) lv (.inl v :: st)) : V p l e R s m args below meth c G nL Q h cells slots pc lv (.inl y :: .inl x :: st) := by
  unfold dv at eq
  split at eq
  · cases eq
  · rename_i hne
    cases eq
    exact fun H locs ls hH hS hL => lv_idiv C.1 C.2.1 d hne (k H locs ls hH hS hL)
theorem r_idivK (C : Cx p s m args meth c cc own nL G) {x y : Int32} (d : decode cc pc = .ok (.idiv, 1)) (hne : ¬ y = 0) (k : V p l e R s m args below meth c G nL Q h cells slots (pc + 1) lv (.inl (x / y) :: st)) : V p l e R s m args below meth c G nL Q h cells slots pc lv (.inl y :: .inl x :: st) := fun H locs ls hH hS hL => lv_idiv C.1 C.2.1 d hne (k H locs ls hH hS hL)
theorem r_irem (C : Cx p s m args meth c cc own nL G) {x y v : Int32} (d : decode cc pc = .ok (.irem, 1)) (eq : rmd x y = some v) (k : V p l e R s m args below meth c G nL Q h cells slots (pc + 1) lv (.inl v :: st)) : V p l e R s m args below meth c G nL Q h cells slots pc lv (.inl y :: .inl x :: st) := by
  unfold rmd at eq
  split at eq
  · cases eq
  · rename_i hne
    cases eq
    exact fun H locs ls hH hS hL => lv_irem C.1 C.2.1 d hne (k H locs ls hH hS hL)
theorem r_iremK (C : Cx p s m args meth c cc own nL G) {x y : Int32} (d : decode cc pc = .ok (.irem, 1)) (hne : ¬ y = 0) (k : V p l e R s m args below meth c G nL Q h cells slots (pc + 1) lv (.inl (x - x / y * y) :: st)) : V p l e R s m args below meth c G nL Q h cells slots pc lv (.inl y :: .inl x :: st) := fun H locs ls hH hS hL => lv_irem C.1 C.2.1 d hne (k H locs ls hH hS hL)
theorem r_dup (C : Cx p s m args meth c cc own nL G) {w : Wd} (d : decode cc pc = .ok (.dup, 1)) (k : V p l e R s m args below meth c G nL Q h cells slots (pc + 1) lv (w :: w :: st)) : V p l e R s m args below meth c G nL Q h cells slots pc lv (w :: st) := fun H locs ls hH hS hL => lv_dup C.1 C.2.1 d (vl_cat _ _) (k H locs ls hH hS hL)
theorem r_pop (C : Cx p s m args meth c cc own nL G) {w : Wd} (d : decode cc pc = .ok (.pop, 1)) (k : V p l e R s m args below meth c G nL Q h cells slots (pc + 1) lv st) : V p l e R s m args below meth c G nL Q h cells slots pc lv (w :: st) := fun H locs ls hH hS hL => lv_pop C.1 C.2.1 d (vl_cat _ _) (k H locs ls hH hS hL)
theorem r_dup_x1 (C : Cx p s m args meth c cc own nL G) {w z : Wd} (d : decode cc pc = .ok (.dup_x1, 1)) (k : V p l e R s m args below meth c G nL Q h cells slots (pc + 1) lv (w :: z :: w :: st)) : V p l e R s m args below meth c G nL Q h cells slots pc lv (w :: z :: st) := fun H locs ls hH hS hL => lv_dup_x1 C.1 C.2.1 d (vl_cat _ _) (vl_cat _ _) (k H locs ls hH hS hL)
theorem r_dup2 (C : Cx p s m args meth c cc own nL G) {w z : Wd} (d : decode cc pc = .ok (.dup2, 1)) (k : V p l e R s m args below meth c G nL Q h cells slots (pc + 1) lv (w :: z :: w :: z :: st)) : V p l e R s m args below meth c G nL Q h cells slots pc lv (w :: z :: st) := fun H locs ls hH hS hL => lv_dup2_11 C.1 C.2.1 d (vl_cat _ _) (vl_cat _ _) (k H locs ls hH hS hL)
theorem r_if_eq (C : Cx p s m args meth c cc own nL G) {x : Int32} {off : Int} {tgt : Nat} (d : decode cc pc = .ok (.ifCond .eq off, 3)) (ht : (pc : Int) + off = (tgt : Int)) (kt : x = 0 → V p l e R s m args below meth c G nL Q h cells slots tgt lv st) (kf : ¬ x = 0 → V p l e R s m args below meth c G nL Q h cells slots (pc + 3) lv st) : V p l e R s m args below meth c G nL Q h cells slots pc lv (.inl x :: st) := fun H locs ls hH hS hL => lv_if_eq C.1 C.2.1 d ht (fun q => kt q H locs ls hH hS hL) (fun q => kf q H locs ls hH hS hL)
theorem r_icmp_eq (C : Cx p s m args meth c cc own nL G) {x y : Int32} {off : Int} {tgt : Nat} (d : decode cc pc = .ok (.if_icmp .eq off, 3)) (ht : (pc : Int) + off = (tgt : Int)) (kt : x = y → V p l e R s m args below meth c G nL Q h cells slots tgt lv st) (kf : ¬ x = y → V p l e R s m args below meth c G nL Q h cells slots (pc + 3) lv st) : V p l e R s m args below meth c G nL Q h cells slots pc lv (.inl y :: .inl x :: st) := fun H locs ls hH hS hL => lv_icmp_eq C.1 C.2.1 d ht (fun q => kt q H locs ls hH hS hL) (fun q => kf q H locs ls hH hS hL)
theorem r_if_ne (C : Cx p s m args meth c cc own nL G) {x : Int32} {off : Int} {tgt : Nat} (d : decode cc pc = .ok (.ifCond .ne off, 3)) (ht : (pc : Int) + off = (tgt : Int)) (kt : ¬ x = 0 → V p l e R s m args below meth c G nL Q h cells slots tgt lv st) (kf : x = 0 → V p l e R s m args below meth c G nL Q h cells slots (pc + 3) lv st) : V p l e R s m args below meth c G nL Q h cells slots pc lv (.inl x :: st) := fun H locs ls hH hS hL => lv_if_ne C.1 C.2.1 d ht (fun q => kt q H locs ls hH hS hL) (fun q => kf q H locs ls hH hS hL)
theorem r_icmp_ne (C : Cx p s m args meth c cc own nL G) {x y : Int32} {off : Int} {tgt : Nat} (d : decode cc pc = .ok (.if_icmp .ne off, 3)) (ht : (pc : Int) + off = (tgt : Int)) (kt : ¬ x = y → V p l e R s m args below meth c G nL Q h cells slots tgt lv st) (kf : x = y → V p l e R s m args below meth c G nL Q h cells slots (pc + 3) lv st) : V p l e R s m args below meth c G nL Q h cells slots pc lv (.inl y :: .inl x :: st) := fun H locs ls hH hS hL => lv_icmp_ne C.1 C.2.1 d ht (fun q => kt q H locs ls hH hS hL) (fun q => kf q H locs ls hH hS hL)
theorem r_if_lt (C : Cx p s m args meth c cc own nL G) {x : Int32} {off : Int} {tgt : Nat} (d : decode cc pc = .ok (.ifCond .lt off, 3)) (ht : (pc : Int) + off = (tgt : Int)) (kt : x < 0 → V p l e R s m args below meth c G nL Q h cells slots tgt lv st) (kf : ¬ x < 0 → V p l e R s m args below meth c G nL Q h cells slots (pc + 3) lv st) : V p l e R s m args below meth c G nL Q h cells slots pc lv (.inl x :: st) := fun H locs ls hH hS hL => lv_if_lt C.1 C.2.1 d ht (fun q => kt q H locs ls hH hS hL) (fun q => kf q H locs ls hH hS hL)
theorem r_icmp_lt (C : Cx p s m args meth c cc own nL G) {x y : Int32} {off : Int} {tgt : Nat} (d : decode cc pc = .ok (.if_icmp .lt off, 3)) (ht : (pc : Int) + off = (tgt : Int)) (kt : x < y → V p l e R s m args below meth c G nL Q h cells slots tgt lv st) (kf : ¬ x < y → V p l e R s m args below meth c G nL Q h cells slots (pc + 3) lv st) : V p l e R s m args below meth c G nL Q h cells slots pc lv (.inl y :: .inl x :: st) := fun H locs ls hH hS hL => lv_icmp_lt C.1 C.2.1 d ht (fun q => kt q H locs ls hH hS hL) (fun q => kf q H locs ls hH hS hL)
theorem r_if_ge (C : Cx p s m args meth c cc own nL G) {x : Int32} {off : Int} {tgt : Nat} (d : decode cc pc = .ok (.ifCond .ge off, 3)) (ht : (pc : Int) + off = (tgt : Int)) (kt : 0 ≤ x → V p l e R s m args below meth c G nL Q h cells slots tgt lv st) (kf : ¬ 0 ≤ x → V p l e R s m args below meth c G nL Q h cells slots (pc + 3) lv st) : V p l e R s m args below meth c G nL Q h cells slots pc lv (.inl x :: st) := fun H locs ls hH hS hL => lv_if_ge C.1 C.2.1 d ht (fun q => kt q H locs ls hH hS hL) (fun q => kf q H locs ls hH hS hL)
theorem r_icmp_ge (C : Cx p s m args meth c cc own nL G) {x y : Int32} {off : Int} {tgt : Nat} (d : decode cc pc = .ok (.if_icmp .ge off, 3)) (ht : (pc : Int) + off = (tgt : Int)) (kt : y ≤ x → V p l e R s m args below meth c G nL Q h cells slots tgt lv st) (kf : ¬ y ≤ x → V p l e R s m args below meth c G nL Q h cells slots (pc + 3) lv st) : V p l e R s m args below meth c G nL Q h cells slots pc lv (.inl y :: .inl x :: st) := fun H locs ls hH hS hL => lv_icmp_ge C.1 C.2.1 d ht (fun q => kt q H locs ls hH hS hL) (fun q => kf q H locs ls hH hS hL)
theorem r_if_gt (C : Cx p s m args meth c cc own nL G) {x : Int32} {off : Int} {tgt : Nat} (d : decode cc pc = .ok (.ifCond .gt off, 3)) (ht : (pc : Int) + off = (tgt : Int)) (kt : 0 < x → V p l e R s m args below meth c G nL Q h cells slots tgt lv st) (kf : ¬ 0 < x → V p l e R s m args below meth c G nL Q h cells slots (pc + 3) lv st) : V p l e R s m args below meth c G nL Q h cells slots pc lv (.inl x :: st) := fun H locs ls hH hS hL => lv_if_gt C.1 C.2.1 d ht (fun q => kt q H locs ls hH hS hL) (fun q => kf q H locs ls hH hS hL)
theorem r_icmp_gt (C : Cx p s m args meth c cc own nL G) {x y : Int32} {off : Int} {tgt : Nat} (d : decode cc pc = .ok (.if_icmp .gt off, 3)) (ht : (pc : Int) + off = (tgt : Int)) (kt : y < x → V p l e R s m args below meth c G nL Q h cells slots tgt lv st) (kf : ¬ y < x → V p l e R s m args below meth c G nL Q h cells slots (pc + 3) lv st) : V p l e R s m args below meth c G nL Q h cells slots pc lv (.inl y :: .inl x :: st) := fun H locs ls hH hS hL => lv_icmp_gt C.1 C.2.1 d ht (fun q => kt q H locs ls hH hS hL) (fun q => kf q H locs ls hH hS hL)
theorem r_if_le (C : Cx p s m args meth c cc own nL G) {x : Int32} {off : Int} {tgt : Nat} (d : decode cc pc = .ok (.ifCond .le off, 3)) (ht : (pc : Int) + off = (tgt : Int)) (kt : x ≤ 0 → V p l e R s m args below meth c G nL Q h cells slots tgt lv st) (kf : ¬ x ≤ 0 → V p l e R s m args below meth c G nL Q h cells slots (pc + 3) lv st) : V p l e R s m args below meth c G nL Q h cells slots pc lv (.inl x :: st) := fun H locs ls hH hS hL => lv_if_le C.1 C.2.1 d ht (fun q => kt q H locs ls hH hS hL) (fun q => kf q H locs ls hH hS hL)
theorem r_icmp_le (C : Cx p s m args meth c cc own nL G) {x y : Int32} {off : Int} {tgt : Nat} (d : decode cc pc = .ok (.if_icmp .le off, 3)) (ht : (pc : Int) + off = (tgt : Int)) (kt : x ≤ y → V p l e R s m args below meth c G nL Q h cells slots tgt lv st) (kf : ¬ x ≤ y → V p l e R s m args below meth c G nL Q h cells slots (pc + 3) lv st) : V p l e R s m args below meth c G nL Q h cells slots pc lv (.inl y :: .inl x :: st) := fun H locs ls hH hS hL => lv_icmp_le C.1 C.2.1 d ht (fun q => kt q H locs ls hH hS hL) (fun q => kf q H locs ls hH hS hL)
theorem r_goto (C : Cx p s m args meth c cc own nL G) {off : Int} {tgt : Nat} (d : decode cc pc = .ok (.goto off, 3)) (ht : (pc : Int) + off = (tgt : Int)) (k : V p l e R s m args below meth c G nL Q h cells slots tgt lv st) : V p l e R s m args below meth c G nL Q h cells slots pc lv st := fun H locs ls hH hS hL => lv_goto C.1 C.2.1 d ht (k H locs ls hH hS hL)
theorem r_ifnull (C : Cx p s m args meth c cc own nL G) {o : Option Nat} {off : Int} {tgt : Nat} (d : decode cc pc = .ok (.ifnull off, 3)) (ht : (pc : Int) + off = (tgt : Int)) (kt : o = none → V p l e R s m args below meth c G nL Q h cells slots tgt lv st) (kf : ¬ o = none → V p l e R s m args below meth c G nL Q h cells slots (pc + 3) lv st) : V p l e R s m args below meth c G nL Q h cells slots pc lv (.inr o :: st) := by
  intro H locs ls hH hS hL
  cases o with
  | none => exact lv_ifnullN C.1 C.2.1 d ht (kt rfl H locs ls hH hS hL)
  | some a => exact lv_ifnull C.1 C.2.1 d (kf (fun q => by cases q) H locs ls hH hS hL)
theorem r_ifnonnull (C : Cx p s m args meth c cc own nL G) {o : Option Nat} {off : Int} {tgt : Nat} (d : decode cc pc = .ok (.ifnonnull off, 3)) (ht : (pc : Int) + off = (tgt : Int)) (kt : ¬ o = none → V p l e R s m args below meth c G nL Q h cells slots tgt lv st) (kf : o = none → V p l e R s m args below meth c G nL Q h cells slots (pc + 3) lv st) : V p l e R s m args below meth c G nL Q h cells slots pc lv (.inr o :: st) := by
  intro H locs ls hH hS hL
  cases o with
  | none => exact lv_ifnonnullN C.1 C.2.1 d (kf rfl H locs ls hH hS hL)
  | some a => exact lv_ifnonnull C.1 C.2.1 d ht (kt (fun q => by cases q) H locs ls hH hS hL)
theorem rf_inj {b : Nat} {o o2 : Option Nat} : rf b o = rf b o2 ↔ o = o2 := by
  cases o <;> cases o2 <;> simp [rf]
theorem r_acmp_eq (C : Cx p s m args meth c cc own nL G) {x y : Option Nat} {off : Int} {tgt : Nat} (d : decode cc pc = .ok (.if_acmp .eq off, 3)) (ht : (pc : Int) + off = (tgt : Int)) (kt : x = y → V p l e R s m args below meth c G nL Q h cells slots tgt lv st) (kf : ¬ x = y → V p l e R s m args below meth c G nL Q h cells slots (pc + 3) lv st) : V p l e R s m args below meth c G nL Q h cells slots pc lv (.inr y :: .inr x :: st) := fun H locs ls hH hS hL => lv_acmp_eq C.1 C.2.1 d ht (fun q => kt (rf_inj.mp q) H locs ls hH hS hL) (fun q => kf (fun z => q (rf_inj.mpr z)) H locs ls hH hS hL)
theorem r_acmp_ne (C : Cx p s m args meth c cc own nL G) {x y : Option Nat} {off : Int} {tgt : Nat} (d : decode cc pc = .ok (.if_acmp .ne off, 3)) (ht : (pc : Int) + off = (tgt : Int)) (kt : ¬ x = y → V p l e R s m args below meth c G nL Q h cells slots tgt lv st) (kf : x = y → V p l e R s m args below meth c G nL Q h cells slots (pc + 3) lv st) : V p l e R s m args below meth c G nL Q h cells slots pc lv (.inr y :: .inr x :: st) := fun H locs ls hH hS hL => lv_acmp_ne C.1 C.2.1 d ht (fun q => kt (fun z => q (rf_inj.mpr z)) H locs ls hH hS hL) (fun q => kf (rf_inj.mp q) H locs ls hH hS hL)
theorem r_tabOut (C : Cx p s m args meth c cc own nL G) {dflt lo hi : Int} {offs : Array Int} {len : Nat} {x : Int32} {tgt : Nat} (d : decode cc pc = .ok (.tableswitch dflt lo hi offs, len)) (hx : x.toInt < lo ∨ hi < x.toInt) (ht : (pc : Int) + dflt = (tgt : Int)) (k : V p l e R s m args below meth c G nL Q h cells slots tgt lv st) : V p l e R s m args below meth c G nL Q h cells slots pc lv (.inl x :: st) := fun H locs ls hH hS hL => lv_tableOut C.1 C.2.1 d hx ht (k H locs ls hH hS hL)
theorem r_tabIn (C : Cx p s m args meth c cc own nL G) {dflt lo hi : Int} {offs : Array Int} {len : Nat} {x : Int32} {off : Int} {tgt : Nat} (d : decode cc pc = .ok (.tableswitch dflt lo hi offs, len)) (h1 : ¬ x.toInt < lo) (h2 : ¬ hi < x.toInt) (ho : offs[(x.toInt - lo).toNat]? = some off) (ht : (pc : Int) + off = (tgt : Int)) (k : V p l e R s m args below meth c G nL Q h cells slots tgt lv st) : V p l e R s m args below meth c G nL Q h cells slots pc lv (.inl x :: st) := fun H locs ls hH hS hL => lv_tableIn C.1 C.2.1 d h1 h2 ho ht (k H locs ls hH hS hL)
end Rows
end
section
section Rows2
variable {p : Program} {l : Launch} {e : Env} {R : Room} {s : State} {m : MethodId} {args : Array Value} {below : List Frame} {meth : Method} {c : Code} {cc : ByteArray} {own : String} {G : Gl} {nL : Nat} {Q : State → Prop} {h : Hs} {cells slots pc : Nat} {lv : List (Option Wd)} {st : List Wd}
theorem r_getI (C : Cx p s m args meth c cc own nL G) {idx ci j : Nat} {o : Option Nat} {v : Int32} (d : decode cc pc = .ok (.getfield idx, 3)) (fl : FL own idx ci j) (hr : refTy (tyOf ci j) = false) (eq : oI ci j h o = some v) (k : V p l e R s m args below meth c G nL Q h cells slots (pc + 3) lv (.inl v :: st)) : V p l e R s m args below meth c G nL Q h cells slots pc lv (.inr o :: st) := by
  cases o with
  | none => cases eq
  | some a =>
    unfold oI at eq
    simp only at eq
    split at eq
    · rename_i hs
      cases eq
      intro H locs ls hH hS hL
      obtain ⟨Cn, T, N, ty, ⟨f1, f2, f3, f4, f5, f6, f7⟩, hj, hlk⟩ := fl
      obtain ⟨hx, hb, hml, hown, hts, hK, hNW, hlk2, hbs⟩ := C
      have ha := hH.lt hs (by omega)
      have he := ws_at (G := G) ha
      rw [ce_obj hs f6] at he
      refine va_get (v := .int (gI h (100 * ci + j) a)) hx hb hts f2 hown hK hH.1 a he f1 j hj (hts _ hlk) (fun _ q => q) ?_ d (k H locs ls hH hS hL)
      rw [fvs_at (by rw [f5]; exact hj)]
      simp [fv, hr]
    · cases eq
theorem r_getR (C : Cx p s m args meth c cc own nL G) {idx ci j : Nat} {o : Option Nat} {v : Option Nat} (d : decode cc pc = .ok (.getfield idx, 3)) (fl : FL own idx ci j) (hr : refTy (tyOf ci j) = true) (eq : oR ci j h o = some v) (k : V p l e R s m args below meth c G nL Q h cells slots (pc + 3) lv (.inr v :: st)) : V p l e R s m args below meth c G nL Q h cells slots pc lv (.inr o :: st) := by
  cases o with
  | none => cases eq
  | some a =>
    unfold oR at eq
    simp only at eq
    split at eq
    · rename_i hs
      cases eq
      intro H locs ls hH hS hL
      obtain ⟨Cn, T, N, ty, ⟨f1, f2, f3, f4, f5, f6, f7⟩, hj, hlk⟩ := fl
      obtain ⟨hx, hb, hml, hown, hts, hK, hNW, hlk2, hbs⟩ := C
      have ha := hH.lt hs (by omega)
      have he := ws_at (G := G) ha
      rw [ce_obj hs f6] at he
      refine va_get (v := va_rf (rf G.1 (gR h (100 * ci + j) a))) hx hb hts f2 hown hK hH.1 a he f1 j hj (hts _ hlk) (fun _ q => q) ?_ d (k H locs ls hH hS hL)
      rw [fvs_at (by rw [f5]; exact hj)]
      simp [fv, hr]
    · cases eq
/-- the written world is the picture's -/
theorem HP.put {H H1 : Heap} {h h' : Hs} {a : Nat} (hH : HP G h H) (ha : a < sz h) (hz : sz h' = sz h) (hsh : ∀ k, (sh h' k).1 = (sh h k).1) (ho : ∀ k, k ≠ a → ce G h' k = ce G h k) (hat : va_at G.2.1 cls13 (G.1 + a, ce G h' a) H1) (oq : ∀ q : Nat, q ≠ G.1 + a → H1[q]? = H[q]?) (hsz : H1.size = H.size) : HP G h' H1 := by
  have hP := hH.1.set (ws_D G h) (ws_at ha) hat oq
  rw [ws_set ha hz (fun k _ hk => ho k hk)] at hP
  refine ⟨hP, by rw [hsz, hz]; exact hH.2.1, fun q hq => ?_⟩
  rw [hsh]
  exact hH.2.2 q (by rw [← hz]; exact hq)
theorem HP.objAt {H : Heap} (hH : HP G h H) {a ci : Nat} {q : vw_C} (hs : (sh h a).1 = ci) (hc : ci < 13) (hq : cls13[ci]? = some q) : t_OB (G.1 + a) (G.2.1.1 ci) q.2.2 (G.2.1.2 ci) H (vp_V (fvs G.1 h ci a)) := by
  have ha := hH.lt hs (by omega)
  have he := hH.1 a _ (ws_at ha)
  rw [ce_obj hs hc] at he
  obtain ⟨r, h1, h2⟩ := he
  cases h1.symm.trans hq
  exact h2
theorem HP.arrAt {H : Heap} (hH : HP G h H) {a t : Nat} (hs : (sh h a).1 = 20 + t) (ht : t < 3) : H[G.1 + a]? = some (arrV (G.2.2 t) (sh h a).2 (fun j => .int (aI h a j))) := by
  have ha := hH.lt hs (by omega)
  have he := hH.1 a _ (ws_at ha)
  rw [ce_int hs ht] at he
  exact he
theorem HP.refAt {H : Heap} (hH : HP G h H) {a t : Nat} (hs : (sh h a).1 = 20 + t) (ht : 3 ≤ t) (ht2 : t < 7) : H[G.1 + a]? = some (arrV (G.2.2 t) (sh h a).2 (fun j => va_rf (rf G.1 (aR h a j)))) := by
  have ha := hH.lt hs (by omega)
  have he := hH.1 a _ (ws_at ha)
  rw [ce_ref hs ht] at he
  exact he
theorem nar_ref {t : FieldType} (hr : refTy t = true) {o : Option Nat} : narrow t (va_rf o) = va_rf o := by
  cases t <;> simp [refTy] at hr <;> cases o <;> rfl
theorem fit_ref {t : FieldType} (hr : refTy t = true) {o : Option Nat} : fits t (va_rf o) = true := by
  cases t <;> simp [refTy] at hr <;> cases o <;> rfl
/-- a field is written, seen from the machine: what the new cell holds -/
theorem w_put (C : Cx p s m args meth c cc own nL G) {H : Heap} {locs : List Loc} {ls : Array Slot} {rest : List Value} {idx ci j a : Nat} {v : Value} {vs : List Value} (fl : FL own idx ci j) (hfin : FN ci j ∨ (FF own ci j ∧ meth.name = "<init>")) (hn : narrow (tyOf ci j) v = v) (hf : fits (tyOf ci j) v = true) (hob : ∀ q, cls13[ci]? = some q → t_OB a (G.2.1.1 ci) q.2.2 (G.2.1.2 ci) H (vp_V vs)) (hvl : vs.length = nF ci) (d : decode cc pc = .ok (.putfield idx, 3))
    (kk : ∀ (H1 : Heap) (i : Nat), va_at G.2.1 cls13 (a, .inr (ci, vs.set j v)) H1 → (∀ q : Nat, q ≠ a → H1[q]? = H[q]?) → H1.size = H.size → W p l e R s m args below meth c H1 (locs ++ [⟨a, i⟩]) cells slots Q (F0 m (pc + 3) ls rest)) : W p l e R s m args below meth c H locs cells slots Q (F0 m pc ls (v :: .ref a :: rest)) := by
  obtain ⟨Cn, T, N, ty, ⟨f1, f2, f3, f4, f5, f6, f7⟩, hj, hlk⟩ := fl
  obtain ⟨hx, hb, hml, hown, hts, hK, hNW, hlk2, hbs⟩ := C
  have hap := va_apart (own := own) hts f2 ty f3 f4 hK f1
  obtain ⟨cell, q1, q2, q3, q4⟩ := hob _ f1
  obtain ⟨hS, hfc, kC, hkC, hkind⟩ := hK.1 ci _ f1
  obtain ⟨cf, kf, fi, f, hi, hsl⟩ := hS j hj
  have hst := (u_facts hfc hkC (u_lays hts f2 hj) hi).1
  have hd : parseFieldDescriptor (T j).2.2.1 = some (tyOf ci j) := by rw [f7]; exact f3 j hj
  have hlt : f.slot < cell.slots.size := by rw [hsl]; exact k2_hasslot (q4 j hj)
  have fin : ∀ H' : Heap, H'[a]? = some (cell.setSlot f.slot v) → va_at G.2.1 cls13 (a, .inr (ci, vs.set j v)) H' := fun H' e1 => by
    rw [hsl] at e1
    exact ⟨_, f1, t_OB.to (V := updV (vp_V vs) j v) ⟨_, e1, q2, q3, t_set q4 hap hj v⟩ (fun i _ => vp_updV_set (by rw [hvl, f5]; exact hj) v i)⟩
  have hlay := hts _ (f2 _ (u_in_lay hj))
  unfold u_lay at hlay
  rcases hfin with hfin | ⟨hfin, hini⟩
  · have hff := hfin _ f1
    simp only at hff
    rw [if_neg (by rw [hff]; decide)] at hlay
    have h6 := u_store hfc hkC hkind hlay hi hd hn hf
    exact W.putK hx hb (f := f) ⟨hown, hts _ hlk, ⟨_, _, _, hi⟩, hst⟩ (by rw [q2]; exact h6) q1 q3 hlt rfl rfl d fun H' e1 e2 e3 => kk H' _ (fin H' e1) e3 e2
  · obtain ⟨hff, hdecl⟩ := hfin _ f1
    simp only at hff hdecl
    rw [if_pos hff] at hlay
    have hcf : m.cls = cf := by
      obtain ⟨_, _, c', _, _, _, -, -, hf', -, -, -, hown2, -⟩ := Cond.laysFinal_spec hlay
      have e1 : c' = cf := by have := hi.symm.trans hf'; simp at this; exact this.1.symm
      rw [hdecl] at hown2
      rw [← e1]; exact Option.some.inj (hown.symm.trans hown2)
    have h6 := u_fits hfc hkC hkind (Or.inr hlay) hi hd hn hf
    exact W.putFinK hx hb hown (hts _ hlk) hi hst hcf hini (by rw [q2]; exact h6) q1 q3 hlt rfl rfl d fun H' e1 e2 e3 => kk H' _ (fin H' e1) e3 e2
theorem S_put {H H1 : Heap} {locs : List Loc} {a i : Nat} (hS : va_S (AG G) s.heap H locs) (oq : ∀ q : Nat, q ≠ G.1 + a → H1[q]? = H[q]?) (hsz : H1.size = H.size) : va_S (AG G) s.heap H1 (locs ++ [⟨G.1 + a, i⟩]) := hS.put hsz oq (Nat.le_add_right _ _)
theorem r_putI (C : Cx p s m args meth c cc own nL G) {idx ci j : Nat} {o : Option Nat} {v : Int32} {h' : Hs} (d : decode cc pc = .ok (.putfield idx, 3)) (fl : FL own idx ci j) (hfin : FN ci j ∨ (FF own ci j ∧ meth.name = "<init>")) (hr : tyOf ci j = .int) (eq : qI ci j h o v = some h') (k : V p l e R s m args below meth c G nL Q h' cells slots (pc + 3) lv st) : V p l e R s m args below meth c G nL Q h cells slots pc lv (.inl v :: .inr o :: st) := by
  cases o with
  | none => cases eq
  | some a =>
    unfold qI at eq
    simp only at eq
    split at eq
    · rename_i hs
      cases eq
      skip
      intro H locs ls hH hS hL
      have f6 : ci < 13 := by obtain ⟨Cn, T, N, ty, ⟨f1, f2, f3, f4, f5, f6, f7⟩, hj, hlk⟩ := fl; exact f6
      have hj : j < nF ci := by obtain ⟨Cn, T, N, ty, ⟨f1, f2, f3, f4, f5, f6, f7⟩, hj, hlk⟩ := fl; rw [f5]; exact hj
      have ha := hH.lt hs (by omega)
      refine w_put C (v := .int v) (vs := fvs G.1 h ci a) fl hfin (by rw [hr]; rfl) (by rw [hr]; rfl) (fun q hq => hH.objAt hs f6 hq) (by simp [fvs]) d (fun H1 i hat oq hsz => ?_)
      refine k H1 _ ls (hH.put (h' := uI h (100 * ci + j) a v) ha rfl (fun _ => rfl) (fun k hk => ce_uI hk) ?_ oq hsz) (S_put hS oq hsz) hL
      rw [ce_obj (h := uI h (100 * ci + j) a v) (c := ci) hs f6, fvs_uI hj (by rw [hr]; rfl)]
      exact hat
    · cases eq
theorem r_putZ (C : Cx p s m args meth c cc own nL G) {idx ci j : Nat} {o : Option Nat} {v : Int32} {h' : Hs} (d : decode cc pc = .ok (.putfield idx, 3)) (fl : FL own idx ci j) (hfin : FN ci j ∨ (FF own ci j ∧ meth.name = "<init>")) (hr : tyOf ci j = .boolean) (eq : qZ ci j h o v = some h') (k : V p l e R s m args below meth c G nL Q h' cells slots (pc + 3) lv st) : V p l e R s m args below meth c G nL Q h cells slots pc lv (.inl v :: .inr o :: st) := by
  cases o with
  | none => cases eq
  | some a =>
    unfold qZ at eq
    simp only at eq
    split at eq
    · rename_i hs
      cases eq
      obtain ⟨hs, hv⟩ := hs
      intro H locs ls hH hS hL
      have f6 : ci < 13 := by obtain ⟨Cn, T, N, ty, ⟨f1, f2, f3, f4, f5, f6, f7⟩, hj, hlk⟩ := fl; exact f6
      have hj : j < nF ci := by obtain ⟨Cn, T, N, ty, ⟨f1, f2, f3, f4, f5, f6, f7⟩, hj, hlk⟩ := fl; rw [f5]; exact hj
      have ha := hH.lt hs (by omega)
      refine w_put C (v := .int v) (vs := fvs G.1 h ci a) fl hfin (by rw [hr]; rcases hv with rfl | rfl <;> rfl) (by rw [hr]; rcases hv with rfl | rfl <;> rfl) (fun q hq => hH.objAt hs f6 hq) (by simp [fvs]) d (fun H1 i hat oq hsz => ?_)
      refine k H1 _ ls (hH.put (h' := uI h (100 * ci + j) a v) ha rfl (fun _ => rfl) (fun k hk => ce_uI hk) ?_ oq hsz) (S_put hS oq hsz) hL
      rw [ce_obj (h := uI h (100 * ci + j) a v) (c := ci) hs f6, fvs_uI hj (by rw [hr]; rfl)]
      exact hat
    · cases eq
theorem r_putR (C : Cx p s m args meth c cc own nL G) {idx ci j : Nat} {o : Option Nat} {v : Option Nat} {h' : Hs} (d : decode cc pc = .ok (.putfield idx, 3)) (fl : FL own idx ci j) (hfin : FN ci j ∨ (FF own ci j ∧ meth.name = "<init>")) (hr : refTy (tyOf ci j) = true) (eq : qR ci j h o v = some h') (k : V p l e R s m args below meth c G nL Q h' cells slots (pc + 3) lv st) : V p l e R s m args below meth c G nL Q h cells slots pc lv (.inr v :: .inr o :: st) := by
  cases o with
  | none => cases eq
  | some a =>
    unfold qR at eq
    simp only at eq
    split at eq
    · rename_i hs
      cases eq
      skip
      intro H locs ls hH hS hL
      have f6 : ci < 13 := by obtain ⟨Cn, T, N, ty, ⟨f1, f2, f3, f4, f5, f6, f7⟩, hj, hlk⟩ := fl; exact f6
      have hj : j < nF ci := by obtain ⟨Cn, T, N, ty, ⟨f1, f2, f3, f4, f5, f6, f7⟩, hj, hlk⟩ := fl; rw [f5]; exact hj
      have ha := hH.lt hs (by omega)
      refine w_put C (v := va_rf (rf G.1 v)) (vs := fvs G.1 h ci a) fl hfin (nar_ref hr) (fit_ref hr) (fun q hq => hH.objAt hs f6 hq) (by simp [fvs]) d (fun H1 i hat oq hsz => ?_)
      refine k H1 _ ls (hH.put (h' := uR h (100 * ci + j) a v) ha rfl (fun _ => rfl) (fun k hk => ce_uR hk) ?_ oq hsz) (S_put hS oq hsz) hL
      rw [ce_obj (h := uR h (100 * ci + j) a v) (c := ci) hs f6, fvs_uR hj hr]
      exact hat
    · cases eq
theorem r_iald (C : Cx p s m args meth c cc own nL G) {o : Option Nat} {i v : Int32} (d : decode cc pc = .ok (.iaload, 1)) (eq : lA 20 h o i = some v) (k : V p l e R s m args below meth c G nL Q h cells slots (pc + 1) lv (.inl v :: st)) : V p l e R s m args below meth c G nL Q h cells slots pc lv (.inl i :: .inr o :: st) := by
  cases o with
  | none => cases eq
  | some a =>
    unfold lA at eq
    simp only at eq
    split at eq
    · rename_i hs
      obtain ⟨hs, hi⟩ := hs
      cases eq
      intro H locs ls hH hS hL
      have ha := hH.lt hs (by omega)
      have he := ws_at (G := G) ha
      rw [ce_int (t := 0) hs (by omega)] at he
      obtain ⟨hx, hb, hml, hown, hts, hK, hNW, hlk2, hbs⟩ := C
      exact va_iald hx hb hK hH.1 a 0 he rfl (ixb_in hi) d (k H locs ls hH hS hL)
    · cases eq
theorem r_zald (C : Cx p s m args meth c cc own nL G) {o : Option Nat} {i v : Int32} (d : decode cc pc = .ok (.baload, 1)) (eq : lA 21 h o i = some v) (k : V p l e R s m args below meth c G nL Q h cells slots (pc + 1) lv (.inl v :: st)) : V p l e R s m args below meth c G nL Q h cells slots pc lv (.inl i :: .inr o :: st) := by
  cases o with
  | none => cases eq
  | some a =>
    unfold lA at eq
    simp only at eq
    split at eq
    · rename_i hs
      obtain ⟨hs, hi⟩ := hs
      cases eq
      intro H locs ls hH hS hL
      have ha := hH.lt hs (by omega)
      have he := ws_at (G := G) ha
      rw [ce_int (t := 1) hs (by omega)] at he
      obtain ⟨hx, hb, hml, hown, hts, hK, hNW, hlk2, hbs⟩ := C
      exact va_zald hx hb hK hH.1 a 1 he rfl (ixb_in hi) d (k H locs ls hH hS hL)
    · cases eq
theorem r_bald (C : Cx p s m args meth c cc own nL G) {o : Option Nat} {i v : Int32} (d : decode cc pc = .ok (.baload, 1)) (eq : lA 22 h o i = some v) (k : V p l e R s m args below meth c G nL Q h cells slots (pc + 1) lv (.inl v :: st)) : V p l e R s m args below meth c G nL Q h cells slots pc lv (.inl i :: .inr o :: st) := by
  cases o with
  | none => cases eq
  | some a =>
    unfold lA at eq
    simp only at eq
    split at eq
    · rename_i hs
      obtain ⟨hs, hi⟩ := hs
      cases eq
      intro H locs ls hH hS hL
      have ha := hH.lt hs (by omega)
      have he := ws_at (G := G) ha
      rw [ce_int (t := 2) hs (by omega)] at he
      obtain ⟨hx, hb, hml, hown, hts, hK, hNW, hlk2, hbs⟩ := C
      exact va_bald hx hb hK hH.1 a 2 he rfl (ixb_in hi) d (k H locs ls hH hS hL)
    · cases eq
theorem r_qald (C : Cx p s m args meth c cc own nL G) {t : Nat} {cn : String} {o : Option Nat} {i : Int32} {v : Option Nat} (d : decode cc pc = .ok (.aaload, 1)) (ht : 3 ≤ t) (ht2 : t < 7) (hty : (tys7 G.2.2)[t]? = some (G.2.2 t, .object cn)) (eq : lQ (20 + t) h o i = some v) (k : V p l e R s m args below meth c G nL Q h cells slots (pc + 1) lv (.inr v :: st)) : V p l e R s m args below meth c G nL Q h cells slots pc lv (.inl i :: .inr o :: st) := by
  cases o with
  | none => cases eq
  | some a =>
    unfold lQ at eq
    simp only at eq
    split at eq
    · rename_i hs
      obtain ⟨hs, hi⟩ := hs
      cases eq
      intro H locs ls hH hS hL
      have ha := hH.lt hs (by omega)
      have he := ws_at (G := G) ha
      rw [ce_ref hs ht] at he
      obtain ⟨hx, hb, hml, hown, hts, hK, hNW, hlk2, hbs⟩ := C
      exact va_aldq hx hb hK hH.1 a t he hty (ixb_in hi) d (k H locs ls hH hS hL)
    · cases eq
theorem r_iast (C : Cx p s m args meth c cc own nL G) {o : Option Nat} {i v : Int32} {h' : Hs} (d : decode cc pc = .ok (.iastore, 1)) (eq : sA h o i v = some h') (k : V p l e R s m args below meth c G nL Q h' cells slots (pc + 1) lv st) : V p l e R s m args below meth c G nL Q h cells slots pc lv (.inl v :: .inl i :: .inr o :: st) := by
  cases o with
  | none => cases eq
  | some a =>
    unfold sA at eq
    simp only at eq
    split at eq
    · rename_i hs
      obtain ⟨hs, hi⟩ := hs
      cases eq
      intro H locs ls hH hS hL
      obtain ⟨hx, hb, hml, hown, hts, hK, hNW, hlk2, hbs⟩ := C
      have ha := hH.lt hs (by omega)
      have hin := ixb_in hi
      refine W.iast hx hb (hH.arrAt (t := 0) hs (by omega)) ((hK.2 0 _ rfl).1 _ _) (fun q => by cases q) (by rw [arrV_size]; exact hin) rfl rfl d fun H1 ew z oq => ?_
      refine k H1 _ ls (hH.put (h' := uA h a i.toNatClampNeg (v)) ha rfl (fun _ => rfl) (fun k hk => ce_uA hk) ?_ oq z) (S_put hS oq z) hL
      rw [ce_int (h := uA h a i.toNatClampNeg (v)) (t := 0) hs (by omega)]
      show H1[G.1 + a]? = some (vp_cell _ _)
      rw [ew, vp_cell_i, arrV_store]
      congr 2
      funext q
      by_cases hq : q = i.toNatClampNeg
      · subst hq
        simp [updV, uA, aI]
        try rfl
      · simp [updV, uA, aI, hq]
    · cases eq
theorem r_zast (C : Cx p s m args meth c cc own nL G) {o : Option Nat} {i v : Int32} {h' : Hs} (d : decode cc pc = .ok (.bastore, 1)) (eq : sZ h o i v = some h') (k : V p l e R s m args below meth c G nL Q h' cells slots (pc + 1) lv st) : V p l e R s m args below meth c G nL Q h cells slots pc lv (.inl v :: .inl i :: .inr o :: st) := by
  cases o with
  | none => cases eq
  | some a =>
    unfold sZ at eq
    simp only at eq
    split at eq
    · rename_i hs
      obtain ⟨hs, hi⟩ := hs
      cases eq
      intro H locs ls hH hS hL
      obtain ⟨hx, hb, hml, hown, hts, hK, hNW, hlk2, hbs⟩ := C
      have ha := hH.lt hs (by omega)
      have hin := ixb_in hi
      refine W.zast hx hb (hH.arrAt (t := 1) hs (by omega)) ((hK.2 1 _ rfl).1 _ _) (fun q => by cases q) (by rw [arrV_size]; exact hin) rfl rfl d fun H1 ew z oq => ?_
      refine k H1 _ ls (hH.put (h' := uA h a i.toNatClampNeg (vp_nar .boolean v)) ha rfl (fun _ => rfl) (fun k hk => ce_uA hk) ?_ oq z) (S_put hS oq z) hL
      rw [ce_int (h := uA h a i.toNatClampNeg (vp_nar .boolean v)) (t := 1) hs (by omega)]
      show H1[G.1 + a]? = some (vp_cell _ _)
      rw [ew, vp_cell_i, arrV_store]
      congr 2
      funext q
      by_cases hq : q = i.toNatClampNeg
      · subst hq
        simp [updV, uA, aI, vp_nar]
        try rfl
      · simp [updV, uA, aI, hq]
    · cases eq
theorem r_bast (C : Cx p s m args meth c cc own nL G) {o : Option Nat} {i v : Int32} {h' : Hs} (d : decode cc pc = .ok (.bastore, 1)) (eq : sB h o i v = some h') (k : V p l e R s m args below meth c G nL Q h' cells slots (pc + 1) lv st) : V p l e R s m args below meth c G nL Q h cells slots pc lv (.inl v :: .inl i :: .inr o :: st) := by
  cases o with
  | none => cases eq
  | some a =>
    unfold sB at eq
    simp only at eq
    split at eq
    · rename_i hs
      obtain ⟨hs, hi⟩ := hs
      cases eq
      intro H locs ls hH hS hL
      obtain ⟨hx, hb, hml, hown, hts, hK, hNW, hlk2, hbs⟩ := C
      have ha := hH.lt hs (by omega)
      have hin := ixb_in hi
      refine W.bast hx hb (hH.arrAt (t := 2) hs (by omega)) ((hK.2 2 _ rfl).1 _ _) (fun q => by cases q) (by rw [arrV_size]; exact hin) rfl rfl d fun H1 ew z oq => ?_
      refine k H1 _ ls (hH.put (h' := uA h a i.toNatClampNeg (vp_nar .byte v)) ha rfl (fun _ => rfl) (fun k hk => ce_uA hk) ?_ oq z) (S_put hS oq z) hL
      rw [ce_int (h := uA h a i.toNatClampNeg (vp_nar .byte v)) (t := 2) hs (by omega)]
      show H1[G.1 + a]? = some (vp_cell _ _)
      rw [ew, vp_cell_i, arrV_store]
      congr 2
      funext q
      by_cases hq : q = i.toNatClampNeg
      · subst hq
        simp [updV, uA, aI, vp_nar]
        try rfl
      · simp [updV, uA, aI, hq]
    · cases eq
end Rows2
end
section
section Rows3
variable {p : Program} {l : Launch} {e : Env} {R : Room} {s : State} {m : MethodId} {args : Array Value} {below : List Frame} {meth : Method} {c : Code} {cc : ByteArray} {own : String} {G : Gl} {nL : Nat} {Q : State → Prop} {h : Hs} {cells slots pc : Nat} {lv : List (Option Wd)} {st : List Wd}
theorem r_qast (C : Cx p s m args meth c cc own nL G) {t ci : Nat} {r : vw_C} {o v : Option Nat} {i : Int32} {h' : Hs} (d : decode cc pc = .ok (.aastore, 1)) (ht : 3 ≤ t) (ht2 : t < 7) (hc13 : ci < 13) (hc : cls13[ci]? = some r) (hty : (tys7 G.2.2)[t]? = some (G.2.2 t, .object r.1)) (eq : sQ (20 + t) ci h o i v = some h') (k : V p l e R s m args below meth c G nL Q h' cells slots (pc + 1) lv st) : V p l e R s m args below meth c G nL Q h cells slots pc lv (.inr v :: .inl i :: .inr o :: st) := by
  cases o with
  | none => cases v <;> cases eq
  | some a =>
    cases v with
    | none => cases eq
    | some w =>
      unfold sQ at eq
      simp only at eq
      split at eq
      · rename_i hs
        obtain ⟨hs, hi, hw⟩ := hs
        cases eq
        intro H locs ls hH hS hL
        obtain ⟨hx, hb, hml, hown, hts, hK, hNW, hlk2, hbs⟩ := C
        have ha := hH.lt hs (by omega)
        have hin := ixb_in hi
        have hlt : i.toNatClampNeg < (sh h a).2 := Nat.not_le.mp fun q => hin (Or.inr q)
        have h0 : ¬ i < 0 := fun q => hin (Or.inl q)
        obtain ⟨cellV, g1, g2, g3, -⟩ := hH.objAt hw hc13 hc
        have hcls := (hK.1 ci r hc).2
        obtain ⟨kA, comp, k1, k2, k3, -⟩ := (hK.2 t _ hty).2
        have hcomp : comp = G.2.1.1 ci := Option.some.inj (k3.symm.trans hcls.1)
        subst hcomp
        obtain ⟨kC, hkC, -⟩ := hcls.2
        refine W.aast hx hb (hH.refAt (t := t) hs ht ht2) (fun q h => by cases h) (fun h => by cases h) k1 k2 rfl hkC ⟨h0, by rw [arrV_size]; exact hlt⟩ g1 (fun q h => by rw [g3] at h; cases h) (by rw [g2]; exact hkC) (by rw [g2]; exact va_assign hcls) rfl rfl d fun H1 ew z oq => ?_
        refine k H1 _ ls (hH.put (h' := uQ h a i.toNatClampNeg (some w)) ha rfl (fun _ => rfl) (fun k hk => ce_uQ hk) ?_ oq z) (S_put hS oq z) hL
        rw [ce_ref (h := uQ h a i.toNatClampNeg (some w)) (t := t) hs ht]
        show H1[G.1 + a]? = some (vp_cell _ _)
        rw [ew, vp_cell_q, arrV_store]
        congr 2
        funext q
        by_cases hq : q = i.toNatClampNeg
        · subst hq
          simp [updV, uQ, aR, va_rf, rf]
        · simp [updV, uQ, aR, hq]
      · cases eq
theorem r_alen (C : Cx p s m args meth c cc own nL G) {o : Option Nat} {v : Int32} (d : decode cc pc = .ok (.arraylength, 1)) (eq : oL h o = some v) (k : V p l e R s m args below meth c G nL Q h cells slots (pc + 1) lv (.inl v :: st)) : V p l e R s m args below meth c G nL Q h cells slots pc lv (.inr o :: st) := by
  cases o with
  | none => cases eq
  | some a =>
    unfold oL at eq
    simp only at eq
    split at eq
    · rename_i hs
      cases eq
      intro H locs ls hH hS hL
      obtain ⟨hx, hb, hml, hown, hts, hK, hNW, hlk2, hbs⟩ := C
      exact W.alen (n := Int32.ofNat (sh h a).2) hx hb (hH.arrAt (t := 0) hs (by omega)) ((hK.2 0 _ rfl).1 _ _) (by rw [arrV_size] <;> rfl) rfl rfl d (k H locs ls hH hS hL)
    · cases eq
/-- a new cell -/
theorem HP.new {H H1 : Heap} (hH : HP G h H) (kd : Nat × Nat) (hkd : kd.1 ≠ 99) (hat : va_at G.2.1 cls13 (G.1 + sz h, ce G (nw h kd) (sz h)) H1) (hsz : H1.size = H.size + 1) (oq : ∀ q : Nat, q < H.size → H1[q]? = H[q]?) : HP G (nw h kd) H1 := by
  have hz : sz (nw h kd) = sz h + 1 := rfl
  refine ⟨?_, by rw [hsz, hz, hH.2.1]; omega, fun q hq => ?_⟩
  · intro k q hq
    have hk : k < sz h + 1 := by
      have := (List.getElem?_eq_some_iff.mp hq).1
      simpa [wsO, hz] using this
    rw [ws_at (by rw [hz]; exact hk)] at hq
    cases hq
    by_cases e1 : k = sz h
    · subst e1
      exact hat
    · have hk2 : k < sz h := by omega
      have h1 : ce G (nw h kd) k = ce G h k := ce_congr (by simp [sh, nw, e1]) (fun f => by simp [gI, nw, e1]) (fun f => by simp [gR, nw, e1]) (by funext j; simp [aI, nw, e1]) (by funext j; simp [aR, nw, e1])
      rw [h1]
      have h2 := hH.1 k _ (ws_at hk2)
      exact h2.kept (oq _ h2.lt)
  · rw [hz] at hq
    have e1 : ¬ q = sz h := by omega
    have : sh (nw h kd) q = sh h q := by simp [sh, nw, e1]
    rw [this]
    exact hH.2.2 q (by omega)
theorem S_new {H H1 : Heap} {locs : List Loc} (hS : va_S (AG G) s.heap H locs) (hsz : H1.size = H.size + 1) (oq : ∀ q : Nat, q < H.size → H1[q]? = H[q]?) : va_S (AG G) s.heap H1 locs := ⟨by have := hS.1; omega, fun q h1 h2 => (oq q (Nat.lt_of_lt_of_le h1 hS.1)).trans (hS.2.1 q h1 h2), hS.2.2⟩
theorem dflt_ref {t : FieldType} (hr : refTy t = true) : defaultValue t = .null := by
  cases t <;> simp [refTy] at hr <;> rfl
theorem r_new (C : Cx p s m args meth c cc own nL G) {idx ci N : Nat} {Cn : String} {T : u_T} {ty : Nat → FieldType} (d : decode cc pc = .ok (.new idx, 3)) (F : FC ci Cn T N ty) (hcl : Cond.classLink own idx Cn ∈ gtb) (hins : Cond.instantiable Cn N ∈ gtb) (hini : Cond.initialized Cn ∈ gtb) (hdf : ∀ j, j < N → refTy (tyOf ci j) = true ∨ defaultValue (tyOf ci j) = .int 0) (hc1 : cells + 1 ≤ R.cells) (hs1 : slots + N ≤ R.slots) (k : V p l e R s m args below meth c G nL Q (nw h (ci, 0)) (cells + 1) (slots + N) (pc + 3) lv (.inr (some (sz h)) :: st)) : V p l e R s m args below meth c G nL Q h cells slots pc lv st := by
  intro H locs ls hH hS hL
  obtain ⟨f1, f2, f3, f4, f5, f6, f7⟩ := F
  obtain ⟨hx, hb, hml, hown, hts, hK, hNW, hlk2, hbs⟩ := C
  have hKn := hK.1 ci _ f1
  refine W.newcK hx hb hown (hts _ hcl) (hts _ hins) (hts _ hini) rfl d hc1 hs1 hKn.2.1 hH.2.1 fun H1 kC hkC e1 z1 o1 => ?_
  refine k H1 locs ls (hH.new (ci, 0) (by simp only; omega) ?_ (by rw [z1, hH.2.1]) (fun q hq => o1 q (by rw [← hH.2.1]; exact hq))) (S_new hS (by rw [z1, hH.2.1]) (fun q hq => o1 q (by rw [← hH.2.1]; exact hq))) hL
  rw [ce_obj (h := nw h (ci, 0)) (c := ci) (by simp [sh, nw]) f6]
  refine ⟨_, f1, (u_born ty hts f2 hKn hkC e1 f3).to fun j hj => ?_⟩
  have hj2 : j < nF ci := by rw [f5]; exact hj
  have h9 : vp_V (fvs G.1 (nw h (ci, 0)) ci (sz h)) j = fv G.1 (nw h (ci, 0)) ci j (sz h) := by
    simp [vp_V, fvs_at hj2]
  rw [h9, ← f7]
  by_cases hr : refTy (tyOf ci j) = true
  · rw [dflt_ref hr]
    simp [fv, hr, gR, nw, rf, va_rf]
  · rcases hdf j hj with h1 | h1
    · exact absurd h1 hr
    · rw [h1]
      simp [fv, hr, gI, nw]
theorem r_newA (C : Cx p s m args meth c cc own nL G) {at_ : ArrayType} {t N : Nat} {n : Int32} (d : decode cc pc = .ok (.newarray at_, 2)) (ht : t < 3) (hty : (tys7 G.2.2)[t]? = some (G.2.2 t, newarray.typeOf at_)) (hdf : defaultValue (newarray.typeOf at_) = .int 0) (harr : Cond.arrayClass (newarray.typeOf at_) ∈ gtb) (hn : ¬ n < 0) (hN : n.toNatClampNeg = N) (hby : N * componentBytes (newarray.typeOf at_) ≤ 536870912) (hra : ∀ U cA, va_RA U cA (newarray.typeOf at_) → U.vm.findClass ("[" ++ (newarray.typeOf at_).toString) = some cA) (hc1 : cells + 1 ≤ R.cells) (hs1 : slots + N ≤ R.slots) (k : V p l e R s m args below meth c G nL Q (nw h (20 + t, N)) (cells + 1) (slots + N) (pc + 2) lv (.inr (some (sz h)) :: st)) : V p l e R s m args below meth c G nL Q h cells slots pc lv (.inl n :: st) := by
  intro H locs ls hH hS hL
  obtain ⟨hx, hb, hml, hown, hts, hK, hNW, hlk2, hbs⟩ := C
  refine va_newaK hx hb (hts _ harr) rfl d rfl hn hN hby hc1 hs1 hH.2.1 fun H1 cA e1 z1 o1 hAr hNm => ?_
  have hcA : cA = G.2.2 t := Option.some.inj (hNm.symm.trans (hra _ _ (hK.2 t _ hty).2))
  subst hcA
  refine k H1 locs ls (hH.new (20 + t, N) (by simp only; omega) ?_ (by rw [z1, hH.2.1]) (fun q hq => o1 q (by rw [← hH.2.1]; exact hq))) (S_new hS (by rw [z1, hH.2.1]) (fun q hq => o1 q (by rw [← hH.2.1]; exact hq))) hL
  rw [ce_int (h := nw h (20 + t, N)) (t := t) (by simp [sh, nw]) ht]
  show H1[G.1 + sz h]? = some (vp_cell _ _)
  rw [e1, vp_cell_i, hdf]
  simp [sh, nw, aI]
theorem r_newQ (C : Cx p s m args meth c cc own nL G) {idx t N : Nat} {cn : String} {n : Int32} (d : decode cc pc = .ok (.anewarray idx, 3)) (ht : 3 ≤ t) (ht2 : t < 7) (hty : (tys7 G.2.2)[t]? = some (G.2.2 t, .object cn)) (hcl : Cond.classLink own idx cn ∈ gtb) (hao : NW s → va_AO cn s) (hn : ¬ n < 0) (hN : n.toNatClampNeg = N) (hby : N * 4 ≤ 536870912) (hc1 : cells + 1 ≤ R.cells) (hs1 : slots + N ≤ R.slots) (k : V p l e R s m args below meth c G nL Q (nw h (20 + t, N)) (cells + 1) (slots + N) (pc + 3) lv (.inr (some (sz h)) :: st)) : V p l e R s m args below meth c G nL Q h cells slots pc lv (.inl n :: st) := by
  subst hN
  intro H locs ls hH hS hL
  obtain ⟨hx, hb, hml, hown, hts, hK, hNW, hlk2, hbs⟩ := C
  refine W.anew hx hb hown (hts _ hcl) (va_AO.use (hao hNW)) rfl d rfl hn hby hc1 hs1 fun cA kA comp q1 q2 q3 q4 => ?_
  obtain ⟨kA', comp', k1, k2, k3, k4⟩ := (hK.2 t _ hty).2
  have hcA : cA = G.2.2 t := Option.some.inj (q1.symm.trans k4)
  subst hcA
  generalize hH1 : H.push ({ cls := G.2.2 t, slots := Array.replicate n.toNatClampNeg .null, vm := .none } : Cell) = H1
  have z1 : H1.size = H.size + 1 := by rw [← hH1, Array.size_push]
  have e1 : H1[H.size]? = some (arrV (G.2.2 t) n.toNatClampNeg (fun _ => .null)) := by rw [← hH1, Array.getElem?_push_size, ← arrV_new]
  have o1 : ∀ q : Nat, q < H.size → H1[q]? = H[q]? := fun q hq => by rw [← hH1, Array.getElem?_push, if_neg (Nat.ne_of_lt hq)]
  have k' := k H1 locs ls (hH.new (20 + t, n.toNatClampNeg) (by simp only; omega) ?_ z1 o1) (S_new hS z1 o1) hL
  · have e9 : vl G.1 (.inr (some (sz h))) = .ref H.size := by rw [hH.2.1]; rfl
    rw [List.map_cons, e9] at k'
    exact k'
  rw [ce_ref (h := nw h (20 + t, n.toNatClampNeg)) (t := t) (by simp [sh, nw]) ht]
  show H1[G.1 + sz h]? = some (vp_cell _ _)
  rw [← hH.2.1, e1, vp_cell_q]
  simp [sh, nw, aR, rf, va_rf]
/-! calls: a contract over my heap -/
def HK (G : Gl) (h : Hs) (U : State) : Prop := HP G h U.heap ∧ va_K G.2.1 cls13 (tys7 G.2.2) U ∧ NW U ∧ G.1 ≤ U.heap.size
def QcG (G : Gl) (res : Option Wd) (h' : Hs) : Array Value → State → Outcome → State → Prop := fun _ st o t => o = .returned (res.map (vl G.1)) ∧ HP G h' t.heap ∧ va_F (AG G) st t
def CT (l : Launch) (G : Gl) (y : MethodName) (bytes : ByteArray) (maxL : Nat) (ret : Option FieldType) (rm : Room) (av : List Wd) (h : Hs) (res : Option Wd) (h' : Hs) : Prop :=
  Met l y (Cond.code y bytes maxL ret :: gtb) rm (va_Pc (av.map (vl G.1)) (HK G h)) (QcG G res h') rm.cells rm.slots (AG G)
theorem HK_blind {av : List Value} : FrameBlind (va_Pc av (HK G h)) := fun a U g mk q => ⟨q.1, q.2.1, va_K.moved (u := U) (U := U.calling g mk a) (Vm.Alike.refl U.vm) q.2.2.1, ⟨q.2.2.2.1.1, q.2.2.2.1.2⟩, q.2.2.2.2⟩
theorem gt_good {y : MethodName} {bytes : ByteArray} {maxL : Nat} {ret : Option FieldType} (hc : Cond.code y bytes maxL ret ∈ gtb) : GoodIn gtb (Cond.code y bytes maxL ret :: gtb) := fun w hw => by
  have h1 : w ∈ gtb := by
    rcases List.mem_cons.mp hw with rfl | q
    · exact hc
    · exact q
  exact ⟨h1, good_of_word (gtb_good h1)⟩
/-- what every call's words have in common -/
def MC (y : MethodName) (bytes : ByteArray) (maxL : Nat) (ret : Option FieldType) (n : Nat) : Prop := Cond.code y bytes maxL ret ∈ gtb ∧ Cond.initialized y.cls ∈ gtb ∧ (y.cls ≠ "java/lang/invoke/MethodHandle" ∧ y.cls ≠ "java/lang/invoke/VarHandle" ∧ (parseMethodDescriptor y.desc).map (fun d => d.parameters.length) = some n)
theorem run_on {H : Heap} {locs : List Loc} {ls : Array Slot} {stk rest : List Value} {mc ms : Nat} {av : Array Value} {res : Option Wd} {h' : Hs} {st' : List Wd} (hrest : rest = st'.map (vl G.1)) (hbs : G.1 ≤ s.heap.size) (hS : va_S (AG G) s.heap H locs) (hL : LV G.1 ls nL lv) (hr : va_Run p l e R s m args below meth c H locs cells slots mc ms (F0 m pc ls stk) rest (QcG G res h' av) (AG G)) (k : V p l e R s m args below meth c G nL Q h' (cells + mc) (slots + ms) (pc + 3) lv (res.toList ++ st')) : W p l e R s m args below meth c H locs cells slots Q (F0 m pc ls stk) := by
  intro T hT X
  obtain ⟨v, st₀, t, T', L, h0, X', hLf, e1, e2, ⟨hv, hP, hF⟩, go⟩ := hr T hT X
  have hv' : v = res.map (vl G.1) := by cases hv; rfl
  have hS' : va_S (AG G) s.heap t.heap (locs ++ L) := by
    obtain ⟨z, oq⟩ := hF
    rw [h0] at z oq
    refine ⟨Nat.le_trans hS.1 z, fun q h1 h2 => ?_, fun q hq => ?_⟩
    · rw [oq q (Nat.lt_of_lt_of_le h1 hS.1) h2]
      exact hS.2.1 q h1 h2
    · rcases List.mem_append.mp hq with h1 | h1
      · exact hS.2.2 q h1
      · exact hLf q h1
  obtain ⟨t2, a1, b1⟩ := k t.heap (locs ++ L) ls hP hS' hL T' e1 X'
  refine ⟨t2, go t2 ?_, b1⟩
  rw [hv', hrest]
  cases res with
  | none => exact a1
  | some w => exact a1
theorem r_invV (C : Cx p s m args meth c cc own nL G) {idx n ci maxL : Nat} {y : MethodName} {bytes : ByteArray} {ret : Option FieldType} {rm : Room} {o : Option Nat} {a : Nat} {As : List Wd} {res : Option Wd} {h' : Hs} {q : vw_C} (d : decode cc pc = .ok (.invokevirtual idx, 3)) (M : MC y bytes maxL ret n) (hlk : Cond.methodLink own idx y ∈ gtb) (hin : Cond.instanceMethod y ∈ gtb) (hsel : Cond.selects y.cls y y ∈ gtb) (hq : cls13[ci]? = some q) (hqc : q.1 = y.cls) (hc13 : ci < 13) (hR : rm.frames + 1 ≤ R.frames ∧ 8 + (maxL + 11) + rm.locals ≤ R.locals) (hf : cells + rm.cells ≤ R.cells ∧ slots + rm.slots ≤ R.slots) (hn : As.length = n) (hw : st.length ≤ 8) (er : rc ci h o = some a) (ct : CT l G y bytes maxL ret rm (.inr (some a) :: As) h res h') (k : V p l e R s m args below meth c G nL Q h' (cells + rm.cells) (slots + rm.slots) (pc + 3) lv (res.toList ++ st)) : V p l e R s m args below meth c G nL Q h cells slots pc lv (As.reverse ++ .inr o :: st) := by
  cases o with
  | none => cases er
  | some a' =>
    unfold rc at er
    simp only at er
    split at er
    · rename_i hs
      cases er
      intro H locs ls hH hS hL
      have C0 := C
      obtain ⟨hx, hb, hml, hown, hts, hK, hNW, hlk2, hbs⟩ := C
      obtain ⟨m1, m2, m3⟩ := M
      obtain ⟨cell, g1, g2, g3, -⟩ := hH.objAt hs hc13 hq
      refine run_on (st' := st) rfl hbs hS hL (va_runV (C := y.cls) (As := As.map (vl G.1)) (b := G.1 + a) (n := n) (bytes := bytes) (maxL := maxL) (ret := ret) (rm := rm) ⟨hx, hb, hml, hown, hts⟩ ct ⟨callB_of n hts (gt_good m1) rfl rfl rfl (hts _ m2) (hts _ hlk) m3 hR, hts _ hin, hts _ hsel⟩ ⟨HK_blind, ⟨cell, g1, by rw [g3]; rfl, by rw [g2, ← hqc]; exact (hK.1 ci q hq).2.1⟩, fun U hU hW => ⟨rfl, by rw [hU]; exact hH, va_K.moved hW.alike hK, hNW.warm hW, by rw [hU]; have := hS.1; omega⟩⟩ rfl (by simp [hn]) hL.1 (by simp [vl, rf, va_rf]) ?_ d hf) k
      refine lv_room ?_
      have e9 : ∀ (z : List Wd), ((z.map (vl G.1)).map fun v => v.category).sum = z.length := fun z => by
        induction z with
        | nil => rfl
        | cons a z ih => simp only [List.map_cons, List.sum_cons, vl_cat, ih, List.length_cons]; omega
      rw [e9]; exact hw
    · cases er
theorem cat_sum (z : List Wd) : ((z.map (vl G.1)).map fun v => v.category).sum = z.length := by
  induction z with
  | nil => rfl
  | cons a z ih => simp only [List.map_cons, List.sum_cons, vl_cat, ih, List.length_cons]; omega
theorem r_invI (C : Cx p s m args meth c cc own nL G) {idx n maxL : Nat} {y : MethodName} {bytes : ByteArray} {rm : Room} {a : Nat} {As : List Wd} {res : Option Wd} {h' : Hs} (d : decode cc pc = .ok (.invokespecial idx, 3)) (M : MC y bytes maxL none n) (hlk : Cond.methodLink own idx y ∈ gtb) (hin : Cond.instanceMethod y ∈ gtb) (hy1 : y.name = "<init>") (hR : rm.frames + 1 ≤ R.frames ∧ 8 + (maxL + 11) + rm.locals ≤ R.locals) (hf : cells + rm.cells ≤ R.cells ∧ slots + rm.slots ≤ R.slots) (hn : As.length = n) (hw : st.length ≤ 8) (ct : CT l G y bytes maxL none rm (.inr (some a) :: As) h res h') (k : V p l e R s m args below meth c G nL Q h' (cells + rm.cells) (slots + rm.slots) (pc + 3) lv (res.toList ++ st)) : V p l e R s m args below meth c G nL Q h cells slots pc lv (As.reverse ++ .inr (some a) :: st) := by
  intro H locs ls hH hS hL
  obtain ⟨hx, hb, hml, hown, hts, hK, hNW, hlk2, hbs⟩ := C
  obtain ⟨m1, m2, m3⟩ := M
  exact run_on (st' := st) rfl hbs hS hL (va_runI (As := As.map (vl G.1)) (b := G.1 + a) (n := n) (bytes := bytes) (maxL := maxL) (rm := rm) ⟨hx, hb, hml, hown, hts⟩ ct ⟨callB_of n hts (gt_good m1) rfl rfl rfl (hts _ m2) (hts _ hlk) m3 hR, hy1, hts _ hin⟩ ⟨HK_blind, fun U hU hW => ⟨rfl, by rw [hU]; exact hH, va_K.moved hW.alike hK, hNW.warm hW, by rw [hU]; have := hS.1; omega⟩⟩ rfl (by simp [hn]) hL.1 (by simp [vl, rf, va_rf]) (lv_room (by rw [cat_sum]; exact hw)) d hf) k
theorem r_invIN (C : Cx p s m args meth c cc own nL G) {idx n maxL : Nat} {y : MethodName} {host : String} {bytes : ByteArray} {rm : Room} {a : Nat} {As : List Wd} {res : Option Wd} {h' : Hs} (d : decode cc pc = .ok (.invokespecial idx, 3)) (M : MC y bytes maxL none n) (hlk : (own, idx, y, host) ∈ nws) (hin : Cond.instanceMethod y ∈ gtb) (hy1 : y.name = "<init>") (hR : rm.frames + 1 ≤ R.frames ∧ 8 + (maxL + 11) + rm.locals ≤ R.locals) (hf : cells + rm.cells ≤ R.cells ∧ slots + rm.slots ≤ R.slots) (hn : As.length = n) (hw : st.length ≤ 8) (ct : CT l G y bytes maxL none rm (.inr (some a) :: As) h res h') (k : V p l e R s m args below meth c G nL Q h' (cells + rm.cells) (slots + rm.slots) (pc + 3) lv (res.toList ++ st)) : V p l e R s m args below meth c G nL Q h cells slots pc lv (As.reverse ++ .inr (some a) :: st) := by
  intro H locs ls hH hS hL
  obtain ⟨hx, hb, hml, hown, hts, hK, hNW, hlk2, hbs⟩ := C
  obtain ⟨m1, m2, m3⟩ := M
  exact run_on (st' := st) rfl hbs hS hL (va_runIN (host := host) (As := As.map (vl G.1)) (b := G.1 + a) (n := n) (bytes := bytes) (maxL := maxL) (rm := rm) ⟨hx, hb, hml, hown, hts⟩ ct ⟨va_cnB n hts (gt_good m1) rfl rfl rfl (hNW.1 _ hlk) (hts _ m2) m3 hR, hy1, hts _ hin⟩ ⟨HK_blind, fun U hU hW => ⟨rfl, by rw [hU]; exact hH, va_K.moved hW.alike hK, hNW.warm hW, by rw [hU]; have := hS.1; omega⟩⟩ rfl (by simp [hn]) hL.1 (by simp [vl, rf, va_rf]) (lv_room (by rw [cat_sum]; exact hw)) d hf) k
theorem r_invS (C : Cx p s m args meth c cc own nL G) {idx n maxL : Nat} {y : MethodName} {bytes : ByteArray} {ret : Option FieldType} {rm : Room} {As : List Wd} {res : Option Wd} {h' : Hs} (d : decode cc pc = .ok (.invokestatic idx, 3)) (M : MC y bytes maxL ret n) (hlk : Cond.methodLink own idx y ∈ gtb) (hstat : Cond.static y ∈ gtb) (hR : rm.frames + 1 ≤ R.frames ∧ 8 + (maxL + 11) + rm.locals ≤ R.locals) (hf : cells + rm.cells ≤ R.cells ∧ slots + rm.slots ≤ R.slots) (hn : As.length = n) (hw : st.length ≤ 8) (ct : CT l G y bytes maxL ret rm As h res h') (k : V p l e R s m args below meth c G nL Q h' (cells + rm.cells) (slots + rm.slots) (pc + 3) lv (res.toList ++ st)) : V p l e R s m args below meth c G nL Q h cells slots pc lv (As.reverse ++ st) := by
  intro H locs ls hH hS hL
  obtain ⟨hx, hb, hml, hown, hts, hK, hNW, hlk2, hbs⟩ := C
  obtain ⟨m1, m2, m3⟩ := M
  exact run_on (st' := st) rfl hbs hS hL (va_runS (As := As.map (vl G.1)) (n := n) (bytes := bytes) (maxL := maxL) (ret := ret) (rm := rm) ⟨hx, hb, hml, hown, hts⟩ ct ⟨callB_of n hts (gt_good m1) rfl rfl rfl (hts _ m2) (hts _ hlk) m3 hR, hts _ hstat⟩ ⟨HK_blind, fun U hU hW => ⟨rfl, by rw [hU]; exact hH, va_K.moved hW.alike hK, hNW.warm hW, by rw [hU]; have := hS.1; omega⟩⟩ rfl (by simp [hn]) hL.1 (by simp) (lv_room (by rw [cat_sum]; exact hw)) d hf) k
theorem r_invSN (C : Cx p s m args meth c cc own nL G) {idx n maxL : Nat} {y : MethodName} {host : String} {bytes : ByteArray} {ret : Option FieldType} {rm : Room} {As : List Wd} {res : Option Wd} {h' : Hs} (d : decode cc pc = .ok (.invokestatic idx, 3)) (M : MC y bytes maxL ret n) (hlk : (own, idx, y, host) ∈ nws) (hstat : Cond.static y ∈ gtb) (hR : rm.frames + 1 ≤ R.frames ∧ 8 + (maxL + 11) + rm.locals ≤ R.locals) (hf : cells + rm.cells ≤ R.cells ∧ slots + rm.slots ≤ R.slots) (hn : As.length = n) (hw : st.length ≤ 8) (ct : CT l G y bytes maxL ret rm As h res h') (k : V p l e R s m args below meth c G nL Q h' (cells + rm.cells) (slots + rm.slots) (pc + 3) lv (res.toList ++ st)) : V p l e R s m args below meth c G nL Q h cells slots pc lv (As.reverse ++ st) := by
  intro H locs ls hH hS hL
  obtain ⟨hx, hb, hml, hown, hts, hK, hNW, hlk2, hbs⟩ := C
  obtain ⟨m1, m2, m3⟩ := M
  exact run_on (st' := st) rfl hbs hS hL (va_runSN (host := host) (As := As.map (vl G.1)) (n := n) (bytes := bytes) (maxL := maxL) (ret := ret) (rm := rm) ⟨hx, hb, hml, hown, hts⟩ ct ⟨va_cnB n hts (gt_good m1) rfl rfl rfl (hNW.1 _ hlk) (hts _ m2) m3 hR, hts _ hstat, trivial⟩ ⟨HK_blind, fun U hU hW => ⟨rfl, by rw [hU]; exact hH, va_K.moved hW.alike hK, hNW.warm hW, by rw [hU]; have := hS.1; omega⟩⟩ rfl (by simp [hn]) hL.1 (by simp) (lv_room (by rw [cat_sum]; exact hw)) d hf) k
theorem r_objInit (C : Cx p s m args meth c cc own nL G) {idx a : Nat} (d : decode cc pc = .ok (.invokespecial idx, 3)) (hlk : Cond.methodLink own idx objectInit ∈ gtb) (h1 : Cond.instanceMethod objectInit ∈ gtb) (h2 : Cond.code objectInit ⟨#[0xb1]⟩ 1 none ∈ gtb) (hfr : 1 ≤ R.frames) (hlo : st.length + 12 ≤ R.locals) (k : V p l e R s m args below meth c G nL Q h cells slots (pc + 3) lv st) : V p l e R s m args below meth c G nL Q h cells slots pc lv (.inr (some a) :: st) := by
  intro H locs ls hH hS hL
  obtain ⟨hx, hb, hml, hown, hts, hK, hNW, hlk2, hbs⟩ := C
  refine W.objInit hx hb hown (hts _ hlk) (hts _ h1) (hts _ h2) rfl (by rw [hml]; exact hL.1) rfl d hfr ?_ (k H locs ls hH hS hL)
  show 2 * 0 + _ + 12 ≤ _
  rw [cat_sum]
  omega
/-! the ends -/
theorem r_iret (C : Cx p s m args meth c cc own nL G) {v : Int32} {mc ms : Nat} (d : decode cc pc = .ok (.ireturn, 1)) (hr : meth.sig.returnType = some .int) (h1 : cells ≤ mc) (h2 : slots ≤ ms) : V p l e R s m args below meth c G nL (MQ below (QcG G (some (.inl v)) h) args s mc ms (AG G)) h cells slots pc lv [.inl v] := by
  intro H locs ls hH hS hL
  obtain ⟨hx, hb, hml, hown, hts, hK, hNW, hlk2, hbs⟩ := C
  refine W.widen h1 h2 ?_
  exact W.iret hx hb hr (fun t ht hW => ⟨rfl, by rw [ht]; exact hH, hS.F ht⟩) hS.2.2 d hlk2
theorem r_zret (C : Cx p s m args meth c cc own nL G) {v : Int32} {mc ms : Nat} (d : decode cc pc = .ok (.ireturn, 1)) (hr : meth.sig.returnType = some .boolean) (hv : zc v = some v) (h1 : cells ≤ mc) (h2 : slots ≤ ms) : V p l e R s m args below meth c G nL (MQ below (QcG G (some (.inl v)) h) args s mc ms (AG G)) h cells slots pc lv [.inl v] := by
  intro H locs ls hH hS hL
  obtain ⟨hx, hb, hml, hown, hts, hK, hNW, hlk2, hbs⟩ := C
  refine W.widen h1 h2 ?_
  have hn : narrow .boolean (.int v) = .int v := by
    unfold zc at hv
    split at hv
    · rename_i q; rcases q with rfl | rfl <;> rfl
    · cases hv
  exact W.zret hx hb hr hn (fun t ht hW => ⟨rfl, by rw [ht]; exact hH, hS.F ht⟩) hS.2.2 d hlk2
theorem r_vret (C : Cx p s m args meth c cc own nL G) {mc ms : Nat} (d : decode cc pc = .ok (.return_, 1)) (hr : meth.sig.returnType = none) (h1 : cells ≤ mc) (h2 : slots ≤ ms) : V p l e R s m args below meth c G nL (MQ below (QcG G none h) args s mc ms (AG G)) h cells slots pc lv [] := by
  intro H locs ls hH hS hL
  obtain ⟨hx, hb, hml, hown, hts, hK, hNW, hlk2, hbs⟩ := C
  refine W.widen h1 h2 ?_
  exact W.vret hx hb hr (fun t ht hW => ⟨rfl, by rw [ht]; exact hH, hS.F ht⟩) hS.2.2 d hlk2
theorem r_aret (C : Cx p s m args meth c cc own nL G) {o : Option Nat} {mc ms : Nat} {n : String} (d : decode cc pc = .ok (.areturn, 1)) (hr : meth.sig.returnType = some (.object n)) (h1 : cells ≤ mc) (h2 : slots ≤ ms) : V p l e R s m args below meth c G nL (MQ below (QcG G (some (.inr o)) h) args s mc ms (AG G)) h cells slots pc lv [.inr o] := by
  intro H locs ls hH hS hL
  obtain ⟨hx, hb, hml, hown, hts, hK, hNW, hlk2, hbs⟩ := C
  refine W.widen h1 h2 ?_
  exact W.aret hx hb hr (Or.inl ⟨n, rfl⟩) (by cases o with | none => exact Or.inl rfl | some a => exact Or.inr ⟨_, rfl⟩) (fun t ht hW => ⟨rfl, by rw [ht]; exact hH, hS.F ht⟩) hS.2.2 d hlk2
end Rows3
/-- a contract out of a walk -/
theorem mk_CT {l : Launch} {G : Gl} {y : MethodName} {bytes : ByteArray} {maxL : Nat} {ret : Option FieldType} {rm : Room} {av : List Wd} {h : Hs} {res : Option Wd} {h' : Hs} (hy : plainName y.cls = true) (hlen : av.length ≤ maxL)
    (body : ∀ (p : Program) (e : Env) (s : State) (m : MethodId) (args : Array Value) (below : List Frame) (meth : Method) (c : Code), Cx p s m args meth c bytes y.cls maxL G → meth.sig.returnType = ret → meth.name = y.name → V p l e rm s m args below meth c G maxL (MQ below (QcG G res h') args s rm.cells rm.slots (AG G)) h 0 0 0 (av.map some ++ List.replicate (maxL - av.length) none) []) : CT l G y bytes maxL ret rm av h res h' := by
  refine Met.ofW (cc := bytes) (maxL := maxL) (ret := ret) hy rfl ?_
  intro p e s m args below meth c s₁ B hml hv
  obtain ⟨rfl, hP, hK, hN, hbs⟩ := hv
  have hts := atoms_spec (ws := Cond.code y bytes maxL ret :: gtb) B.pre
  have hown : s.vm.findClass y.cls = some m.cls := findClass_of_methodNamed B.named
  have hin : meth.name = y.name := (name_of_methodNamed B.named B.method).1
  have hsl : (lg_sl (av.map (vl G.1))) = (av.map (vl G.1)).map Slot.val := by
    clear body hlen hml B hts
    induction av with
    | nil => rfl
    | cons a z ih =>
      have ih' : List.flatMap (fun v => if v.category = 2 then [Slot.val v, Slot.second] else [Slot.val v]) (z.map (vl G.1)) = (z.map (vl G.1)).map Slot.val := ih
      simp [lg_sl, vl_cat, ih']
  have hl := lv_entry (av.map (vl G.1)) (n := maxL) (by rw [hsl]; simpa using hlen)
  rw [lg_entry_eq]
  have hLV : LV G.1 (lg_sl (av.map (vl G.1)) ++ List.replicate (maxL - (lg_sl (av.map (vl G.1))).length) Slot.unset).toArray maxL (av.map some ++ List.replicate (maxL - av.length) none) := by
    refine ⟨hl.1, hl.2.1, fun i w hi => ?_⟩
    rw [hsl]
    by_cases hia : i < av.length
    · rw [List.getElem?_append_left (by simpa using hia)] at hi
      simp at hi
      simp [List.getElem?_append_left, hia]
      rw [(List.getElem?_eq_some_iff.mp hi).2]
    · rw [List.getElem?_append_right (by simpa using hia)] at hi
      simp [List.getElem?_replicate] at hi
  exact body p e s m _ below meth c ⟨B.exec, B.bytes, hml, hown, fun w hw => hts w (List.mem_cons_of_mem _ hw), hK, hN, B.notSynchronized, hbs⟩ B.returns hin s.heap [] _ hP va_S.rf hLV
end
section
section Rows4
variable {p : Program} {l : Launch} {e : Env} {R : Room} {s : State} {m : MethodId} {args : Array Value} {below : List Frame} {meth : Method} {c : Code} {cc : ByteArray} {own : String} {G : Gl} {nL : Nat} {Q : State → Prop} {h : Hs} {cells slots pc : Nat} {lv : List (Option Wd)} {st : List Wd}
def MW (own : String) (idx : Nat) (y : MethodName) (bytes : ByteArray) (n : Nat) : Prop := Cond.methodLink own idx y ∈ gtb ∧ Cond.static y ∈ gtb ∧ Cond.initialized "java/lang/Math" ∈ gtb ∧ Cond.code y bytes n (some .int) ∈ gtb
theorem r_mmax (C : Cx p s m args meth c cc own nL G) {idx : Nat} {x y : Int32} (d : decode cc pc = .ok (.invokestatic idx, 3)) (w : MW own idx Lib.Math.max.name Lib.Math.max.code 2) (hfr : 1 ≤ R.frames) (hlo : st.length + 13 ≤ R.locals) (hc : cells ≤ R.cells) (hs : slots ≤ R.slots) (k : V p l e R s m args below meth c G nL Q h cells slots (pc + 3) lv (.inl (if x < y then y else x) :: st)) : V p l e R s m args below meth c G nL Q h cells slots pc lv (.inl y :: .inl x :: st) := by
  intro H locs ls hH hS hL
  obtain ⟨hx, hb, hml, hown, hts, hK, hNW, hlk2, hbs⟩ := C
  exact va_mmax hx hb (by rw [hml, hL.1]) hown (hts _ w.1) (hts _ w.2.1) (hts _ w.2.2.1) (hts _ w.2.2.2) hfr (by rw [cat_sum]; exact hlo) hc hs d (k H locs ls hH hS hL)
theorem r_mmin (C : Cx p s m args meth c cc own nL G) {idx : Nat} {x y : Int32} (d : decode cc pc = .ok (.invokestatic idx, 3)) (w : MW own idx Lib.Math.min.name Lib.Math.min.code 2) (hfr : 1 ≤ R.frames) (hlo : st.length + 13 ≤ R.locals) (hc : cells ≤ R.cells) (hs : slots ≤ R.slots) (k : V p l e R s m args below meth c G nL Q h cells slots (pc + 3) lv (.inl (if y < x then y else x) :: st)) : V p l e R s m args below meth c G nL Q h cells slots pc lv (.inl y :: .inl x :: st) := by
  intro H locs ls hH hS hL
  obtain ⟨hx, hb, hml, hown, hts, hK, hNW, hlk2, hbs⟩ := C
  exact va_mmin hx hb (by rw [hml, hL.1]) hown (hts _ w.1) (hts _ w.2.1) (hts _ w.2.2.1) (hts _ w.2.2.2) hfr (by rw [cat_sum]; exact hlo) hc hs d (k H locs ls hH hS hL)
theorem r_mabs (C : Cx p s m args meth c cc own nL G) {idx : Nat} {x : Int32} (d : decode cc pc = .ok (.invokestatic idx, 3)) (w : MW own idx Lib.Math.abs.name Lib.Math.abs.code 1) (hfr : 1 ≤ R.frames) (hlo : st.length + 13 ≤ R.locals) (hc : cells ≤ R.cells) (hs : slots ≤ R.slots) (k : V p l e R s m args below meth c G nL Q h cells slots (pc + 3) lv (.inl (if 0 ≤ x then x else 0 - x) :: st)) : V p l e R s m args below meth c G nL Q h cells slots pc lv (.inl x :: st) := by
  intro H locs ls hH hS hL
  obtain ⟨hx, hb, hml, hown, hts, hK, hNW, hlk2, hbs⟩ := C
  exact va_mabs hx hb (by rw [hml, hL.1]) hown (hts _ w.1) (hts _ w.2.1) (hts _ w.2.2.1) (hts _ w.2.2.2) hfr (by rw [cat_sum]; first | exact hlo | omega) hc hs d (k H locs ls hH hS hL)
def CW (own : String) (idx : Nat) : Prop := Cond.methodLink own idx arraycopyName ∈ gtb ∧ Cond.native arraycopyName ∈ gtb ∧ Cond.static arraycopyName ∈ gtb ∧ Cond.initialized "java/lang/System" ∈ gtb
theorem r_copy (C : Cx p s m args meth c cc own nL G) {idx : Nat} {o o2 : Option Nat} {sp dp n : Int32} {h' : Hs} (d : decode cc pc = .ok (.invokestatic idx, 3)) (w : CW own idx) (hfr : 1 ≤ R.frames) (hlo : st.length + (nativeFrameWords "java/lang/System" "arraycopy" 5 + 11) ≤ R.locals) (eq : cpA h o sp o2 dp n = some h') (k : V p l e R s m args below meth c G nL Q h' cells slots (pc + 3) lv st) : V p l e R s m args below meth c G nL Q h cells slots pc lv (.inl n :: .inl dp :: .inr o2 :: .inl sp :: .inr o :: st) := by
  cases o with
  | none => cases o2 <;> cases eq
  | some a =>
    cases o2 with
    | none => cases eq
    | some q =>
      unfold cpA at eq
      simp only at eq
      split at eq
      · rename_i hs
        obtain ⟨ha, hq, h1, h2, h3, h4, h5⟩ := hs
        cases eq
        intro H locs ls hH hS hL
        obtain ⟨hx, hb, hml, hown, hts, hK, hNW, hlk2, hbs⟩ := C
        have hal := hH.lt ha (by omega)
        have hql := hH.lt hq (by omega)
        have eA := hH.arrAt (t := 0) ha (by omega)
        have eQ := hH.arrAt (t := 0) hq (by omega)
        obtain ⟨-, k0, hk0, cm0, hkk0⟩ := (hK.2 0 _ rfl).1 (sh h a).2 (fun j => .int (aI h a j))
        have nn : ∀ z : Int32, ¬ z < 0 → z.toInt = (z.toNatClampNeg : Int) := fun z hz => by
          have h9 : (0 : Int) ≤ z.toInt := by simpa using Int32.le_iff_toInt_le.mp (Int32.not_lt.mp hz)
          show z.toInt = ((z.toInt.toNat : Nat) : Int)
          omega
        intro T hT X
        obtain ⟨vm', X', step⟩ := X.arraycopy hx hown (hts _ w.1) (hts _ w.2.1) (hts _ w.2.2.1) (hts _ w.2.2.2) (src := G.1 + a) (dst := G.1 + q) (cs := arrV (G.2.2 0) (sh h a).2 (fun j => .int (aI h a j))) (cd := arrV (G.2.2 0) (sh h q).2 (fun j => .int (aI h q j))) (srcPos := sp) (destPos := dp) (n := n) (by rw [hT]; exact eA) (by rw [hT]; exact eQ)
          (fun _ h => by cases h) (fun _ h => by cases h) (fun h => by cases h) (fun h => by cases h) hk0 hk0 hkk0 hkk0 (by rfl) h1 h2 h3
          (by rw [nn sp h1, nn n h3, arrV_size]; omega)
          (by rw [nn dp h2, nn n h3, arrV_size]; omega)
          (fun vm₁ _ i hi => by
            have e9 : (arrV (G.2.2 0) (sh h a).2 (fun j => .int (aI h a j))).slots.getD (sp.toNatClampNeg + i) .null = .int (aI h a (sp.toNatClampNeg + i)) := by
              rw [Array.getD_eq_getD_getElem?, arrV_read _ _ (by omega)]
              rfl
            rw [e9]
            exact ⟨rfl, trivial⟩)
          (g := F0 m pc ls ((.inl n :: .inl dp :: .inr (some q) :: .inl sp :: .inr (some a) :: st).map (vl G.1))) rfl (by rw [hml]; exact hL.1) (rest := st.map (vl G.1)) rfl (by rw [hb]; exact d) hfr (by show 2 * 0 + _ + _ ≤ _; rw [cat_sum]; omega)
        have e1 : copied (arrV (G.2.2 0) (sh h a).2 (fun j => .int (aI h a j))) (arrV (G.2.2 0) (sh h q).2 (fun j => .int (aI h q j))) sp dp n = arrV (G.2.2 0) (sh h q).2 (fun j => .int (va_cpy (aI h a) (aI h q) sp.toNatClampNeg dp.toNatClampNeg n.toNatClampNeg j)) := va_copied (fun z => .int z) (G.2.2 0) (G.2.2 0) (aI h a) (aI h q) h4
        rw [e1] at X' step
        have hlt : G.1 + q < H.size := by rw [hH.2.1]; omega
        generalize hc9 : arrV (G.2.2 0) (sh h q).2 (fun j => Value.int (va_cpy (aI h a) (aI h q) sp.toNatClampNeg dp.toNatClampNeg n.toNatClampNeg j)) = nc at X' step
        have oq : ∀ z : Nat, z ≠ G.1 + q → (H.setIfInBounds (G.1 + q) nc)[z]? = H[z]? := fun z hz => by simp [Array.getElem?_setIfInBounds, Ne.symm hz]
        have hz : (H.setIfInBounds (G.1 + q) nc).size = H.size := by simp
        have hat : (H.setIfInBounds (G.1 + q) nc)[G.1 + q]? = some nc := by simp [Array.getElem?_setIfInBounds, hlt]
        have hS' : va_S (AG G) s.heap (H.setIfInBounds (G.1 + q) nc) (locs ++ ((arrV (G.2.2 0) (sh h a).2 (fun j => .int (aI h a j))).stretch sp.toNatClampNeg n.toNatClampNeg).zipIdx.map fun z => ⟨G.1 + q, dp.toNatClampNeg + z.2⟩) := by
          refine ⟨by rw [hz]; exact hS.1, fun z g1 g2 => ?_, fun z hz2 => ?_⟩
          · rw [oq z (fun e9 => g2 (by rw [e9]; exact Nat.le_add_right _ _))]
            exact hS.2.1 z g1 g2
          · rcases List.mem_append.mp hz2 with h9 | h9
            · exact hS.2.2 z h9
            · obtain ⟨u, -, hu⟩ := List.mem_map.mp h9
              rw [← hu]
              exact Nat.le_add_right _ _
        obtain ⟨t, a1, b1⟩ := k _ _ ls (hH.put (h' := (h.1, h.2.1, (fun a' j' => if a' = q then va_cpy (aI h a) (aI h q) sp.toNatClampNeg dp.toNatClampNeg n.toNatClampNeg j' else h.2.2.1 a' j'), h.2.2.2)) hql rfl (fun _ => rfl) (fun k hk => ce_congr rfl (fun _ => rfl) (fun _ => rfl) (by funext j; simp [aI, hk]) rfl) (by
            rw [ce_int (h := (h.1, h.2.1, (fun a' j' => if a' = q then va_cpy (aI h a) (aI h q) sp.toNatClampNeg dp.toNatClampNeg n.toNatClampNeg j' else h.2.2.1 a' j'), h.2.2.2)) (t := 0) hq (by omega)]
            show (H.setIfInBounds (G.1 + q) nc)[G.1 + q]? = some (vp_cell _ _)
            rw [hat, ← hc9, vp_cell_i]
            simp [sh, aI]) oq hz) hS' hL _ (by rw [← hT]; rfl) X'
        exact ⟨t, step t a1, b1⟩
      · cases eq
end Rows4
end
section
theorem wd_0 : Cond.initialized "StageMachineLaw" ∈ gtb := gtb_mem (i := 56) (by decide +kernel) (by decide +kernel)
theorem wd_1 : Cond.initialized "StageMachine" ∈ gtb := gtb_mem (i := 57) (by decide +kernel) (by decide +kernel)
theorem wd_2 : Cond.initialized "StageMachine$Tape" ∈ gtb := gtb_mem (i := 58) (by decide +kernel) (by decide +kernel)
theorem wd_3 : Cond.initialized "StageMachine$Candles" ∈ gtb := gtb_mem (i := 59) (by decide +kernel) (by decide +kernel)
theorem wd_4 : Cond.initialized "StageMachine$Stock" ∈ gtb := gtb_mem (i := 60) (by decide +kernel) (by decide +kernel)
theorem wd_5 : Cond.initialized "StageMachine$Stage" ∈ gtb := gtb_mem (i := 61) (by decide +kernel) (by decide +kernel)
theorem wd_6 : Cond.initialized "StageMachine$Turning" ∈ gtb := gtb_mem (i := 62) (by decide +kernel) (by decide +kernel)
theorem wd_7 : Cond.initialized "StageMachine$Stop" ∈ gtb := gtb_mem (i := 63) (by decide +kernel) (by decide +kernel)
theorem wd_8 : Cond.initialized "StageMachine$Change" ∈ gtb := gtb_mem (i := 64) (by decide +kernel) (by decide +kernel)
theorem wd_9 : Cond.initialized "StageMachineModel" ∈ gtb := gtb_mem (i := 65) (by decide +kernel) (by decide +kernel)
theorem wd_10 : Cond.initialized "StageMachine$Thing" ∈ gtb := gtb_mem (i := 66) (by decide +kernel) (by decide +kernel)
theorem wd_11 : Cond.initialized "java/util/Arrays" ∈ gtb := gtb_mem (i := 67) (by decide +kernel) (by decide +kernel)
theorem wd_12 : Cond.initialized "StageMachine$Drum" ∈ gtb := gtb_mem (i := 68) (by decide +kernel) (by decide +kernel)
theorem wd_13 : Cond.initialized "StageMachine$Rope" ∈ gtb := gtb_mem (i := 69) (by decide +kernel) (by decide +kernel)
theorem wd_14 : Cond.initialized "java/lang/Math" ∈ gtb := gtb_mem (i := 70) (by decide +kernel) (by decide +kernel)
theorem wd_15 : Cond.initialized "java/lang/System" ∈ gtb := gtb_mem (i := 71) (by decide +kernel) (by decide +kernel)
theorem wd_16 : Cond.initialized "StageMachine$Panel" ∈ gtb := gtb_mem (i := 72) (by decide +kernel) (by decide +kernel)
theorem wd_17 : Cond.initialized "java/lang/Integer" ∈ gtb := gtb_mem (i := 73) (by decide +kernel) (by decide +kernel)
theorem wd_18 : Cond.classLink "StageMachineLaw" 7 "StageMachine" ∈ gtb := gtb_mem (i := 74) (by decide +kernel) (by decide +kernel)
theorem wd_19 : Cond.instantiable "StageMachine" 7 ∈ gtb := gtb_mem (i := 75) (by decide +kernel) (by decide +kernel)
theorem wd_20 : Cond.methodLink "StageMachineLaw" 9 ⟨"StageMachine", "<init>", "()V"⟩ ∈ gtb := gtb_mem (i := 76) (by decide +kernel) (by decide +kernel)
theorem wd_21 : Cond.instanceMethod ⟨"StageMachine", "<init>", "()V"⟩ ∈ gtb := gtb_mem (i := 77) (by decide +kernel) (by decide +kernel)
set_option maxRecDepth 30000 in
theorem wd_22 : Cond.code ⟨"StageMachine", "<init>", "()V"⟩ prog_1_method_1_code 2 none ∈ gtb := gtb_mem (i := 78) rfl (by decide +kernel)
theorem wd_23 : Cond.methodLink "StageMachine" 1 ⟨"java/lang/Object", "<init>", "()V"⟩ ∈ gtb := gtb_mem (i := 79) (by decide +kernel) (by decide +kernel)
theorem wd_24 : Cond.instanceMethod ⟨"java/lang/Object", "<init>", "()V"⟩ ∈ gtb := gtb_mem (i := 80) (by decide +kernel) (by decide +kernel)
set_option maxRecDepth 30000 in
theorem wd_25 : Cond.code ⟨"java/lang/Object", "<init>", "()V"⟩ object_method_1_code 1 none ∈ gtb := gtb_mem (i := 81) rfl (by decide +kernel)
theorem wd_26 : Cond.classLink "StageMachine" 7 "StageMachine$Tape" ∈ gtb := gtb_mem (i := 82) (by decide +kernel) (by decide +kernel)
theorem wd_27 : Cond.instantiable "StageMachine$Tape" 8 ∈ gtb := gtb_mem (i := 83) (by decide +kernel) (by decide +kernel)
theorem wd_29 : Cond.instanceMethod ⟨"StageMachine$Tape", "<init>", "()V"⟩ ∈ gtb := gtb_mem (i := 85) (by decide +kernel) (by decide +kernel)
set_option maxRecDepth 30000 in
theorem wd_30 : Cond.code ⟨"StageMachine$Tape", "<init>", "()V"⟩ prog_10_method_1_code 1 none ∈ gtb := gtb_mem (i := 86) rfl (by decide +kernel)
theorem wd_31 : Cond.methodLink "StageMachine$Tape" 3 ⟨"java/lang/Object", "<init>", "()V"⟩ ∈ gtb := gtb_mem (i := 87) (by decide +kernel) (by decide +kernel)
theorem wd_32 : Cond.fieldLink "StageMachine$Tape" 9 "StageMachine$Tape" "bytes" "[I" ∈ gtb := gtb_mem (i := 88) (by decide +kernel) (by decide +kernel)
theorem wd_33 : Cond.fieldLink "StageMachine$Tape" 15 "StageMachine$Tape" "letters" "[I" ∈ gtb := gtb_mem (i := 89) (by decide +kernel) (by decide +kernel)
theorem wd_34 : Cond.fieldLink "StageMachine" 226 "StageMachine$Tape" "letters" "[I" ∈ gtb := gtb_mem (i := 90) (by decide +kernel) (by decide +kernel)
theorem wd_35 : Cond.fieldLink "StageMachine$Tape" 18 "StageMachine$Tape" "firsts" "[I" ∈ gtb := gtb_mem (i := 91) (by decide +kernel) (by decide +kernel)
theorem wd_36 : Cond.fieldLink "StageMachine" 219 "StageMachine$Tape" "firsts" "[I" ∈ gtb := gtb_mem (i := 92) (by decide +kernel) (by decide +kernel)
theorem wd_37 : Cond.fieldLink "StageMachine$Tape" 21 "StageMachine$Tape" "seconds" "[I" ∈ gtb := gtb_mem (i := 93) (by decide +kernel) (by decide +kernel)
theorem wd_38 : Cond.fieldLink "StageMachine" 223 "StageMachine$Tape" "seconds" "[I" ∈ gtb := gtb_mem (i := 94) (by decide +kernel) (by decide +kernel)
theorem wd_39 : Cond.fieldLink "StageMachine$Tape" 28 "StageMachine$Tape" "length" "I" ∈ gtb := gtb_mem (i := 95) (by decide +kernel) (by decide +kernel)
theorem wd_40 : Cond.fieldLink "StageMachine" 150 "StageMachine$Tape" "length" "I" ∈ gtb := gtb_mem (i := 96) (by decide +kernel) (by decide +kernel)
theorem wd_41 : Cond.fieldLink "StageMachine$Tape" 35 "StageMachine$Tape" "lineCount" "I" ∈ gtb := gtb_mem (i := 97) (by decide +kernel) (by decide +kernel)
theorem wd_42 : Cond.fieldLink "StageMachine" 161 "StageMachine$Tape" "lineCount" "I" ∈ gtb := gtb_mem (i := 98) (by decide +kernel) (by decide +kernel)
theorem wd_43 : Cond.fieldLink "StageMachine$Tape" 32 "StageMachine$Tape" "next" "I" ∈ gtb := gtb_mem (i := 99) (by decide +kernel) (by decide +kernel)
theorem wd_44 : Cond.fieldLink "StageMachine$Tape" 57 "StageMachine$Tape" "number" "I" ∈ gtb := gtb_mem (i := 100) (by decide +kernel) (by decide +kernel)
theorem wd_62 : Cond.arrayClass FieldType.int ∈ gtb := gtb_mem (i := 118) (by decide +kernel) (by decide +kernel)
theorem wd_63 : Cond.classLink "StageMachine" 16 "StageMachine$Candles" ∈ gtb := gtb_mem (i := 119) (by decide +kernel) (by decide +kernel)
theorem wd_64 : Cond.instantiable "StageMachine$Candles" 4 ∈ gtb := gtb_mem (i := 120) (by decide +kernel) (by decide +kernel)
theorem wd_66 : Cond.instanceMethod ⟨"StageMachine$Candles", "<init>", "()V"⟩ ∈ gtb := gtb_mem (i := 122) (by decide +kernel) (by decide +kernel)
set_option maxRecDepth 30000 in
theorem wd_67 : Cond.code ⟨"StageMachine$Candles", "<init>", "()V"⟩ prog_2_method_1_code 1 none ∈ gtb := gtb_mem (i := 123) rfl (by decide +kernel)
theorem wd_68 : Cond.methodLink "StageMachine$Candles" 3 ⟨"java/lang/Object", "<init>", "()V"⟩ ∈ gtb := gtb_mem (i := 124) (by decide +kernel) (by decide +kernel)
theorem wd_69 : Cond.fieldLink "StageMachine$Candles" 9 "StageMachine$Candles" "lengths" "[I" ∈ gtb := gtb_mem (i := 125) (by decide +kernel) (by decide +kernel)
theorem wd_70 : Cond.fieldLink "StageMachine$Candles" 15 "StageMachine$Candles" "ends" "[I" ∈ gtb := gtb_mem (i := 126) (by decide +kernel) (by decide +kernel)
theorem wd_71 : Cond.fieldLink "StageMachine$Candles" 22 "StageMachine$Candles" "number" "I" ∈ gtb := gtb_mem (i := 127) (by decide +kernel) (by decide +kernel)
theorem wd_72 : Cond.fieldLink "StageMachine" 210 "StageMachine$Candles" "number" "I" ∈ gtb := gtb_mem (i := 128) (by decide +kernel) (by decide +kernel)
theorem wd_73 : Cond.fieldLink "StageMachine$Candles" 26 "StageMachine$Candles" "time" "I" ∈ gtb := gtb_mem (i := 129) (by decide +kernel) (by decide +kernel)
theorem wd_74 : Cond.fieldLink "StageMachine" 207 "StageMachine$Candles" "time" "I" ∈ gtb := gtb_mem (i := 130) (by decide +kernel) (by decide +kernel)
theorem wd_84 : Cond.classLink "StageMachine" 23 "StageMachine$Stock" ∈ gtb := gtb_mem (i := 140) (by decide +kernel) (by decide +kernel)
theorem wd_85 : Cond.instantiable "StageMachine$Stock" 7 ∈ gtb := gtb_mem (i := 141) (by decide +kernel) (by decide +kernel)
theorem wd_87 : Cond.instanceMethod ⟨"StageMachine$Stock", "<init>", "()V"⟩ ∈ gtb := gtb_mem (i := 143) (by decide +kernel) (by decide +kernel)
set_option maxRecDepth 30000 in
theorem wd_88 : Cond.code ⟨"StageMachine$Stock", "<init>", "()V"⟩ prog_8_method_1_code 1 none ∈ gtb := gtb_mem (i := 144) rfl (by decide +kernel)
theorem wd_89 : Cond.methodLink "StageMachine$Stock" 3 ⟨"java/lang/Object", "<init>", "()V"⟩ ∈ gtb := gtb_mem (i := 145) (by decide +kernel) (by decide +kernel)
theorem wd_90 : Cond.classLink "StageMachine$Stock" 9 "StageMachine$Panel" ∈ gtb := gtb_mem (i := 146) (by decide +kernel) (by decide +kernel)
theorem wd_92 : Cond.fieldLink "StageMachine$Stock" 11 "StageMachine$Stock" "flats" "[LStageMachine$Panel;" ∈ gtb := gtb_mem (i := 148) (by decide +kernel) (by decide +kernel)
theorem wd_93 : Cond.fieldLink "StageMachine$Stock" 17 "StageMachine$Stock" "wants" "[LStageMachine$Panel;" ∈ gtb := gtb_mem (i := 149) (by decide +kernel) (by decide +kernel)
theorem wd_94 : Cond.fieldLink "StageMachine$Stock" 20 "StageMachine$Stock" "givenFlats" "[I" ∈ gtb := gtb_mem (i := 150) (by decide +kernel) (by decide +kernel)
theorem wd_95 : Cond.fieldLink "StageMachine$Stock" 24 "StageMachine$Stock" "sums" "[I" ∈ gtb := gtb_mem (i := 151) (by decide +kernel) (by decide +kernel)
theorem wd_96 : Cond.fieldLink "StageMachine$Stock" 31 "StageMachine$Stock" "flatCount" "I" ∈ gtb := gtb_mem (i := 152) (by decide +kernel) (by decide +kernel)
theorem wd_97 : Cond.fieldLink "StageMachine" 213 "StageMachine$Stock" "flatCount" "I" ∈ gtb := gtb_mem (i := 153) (by decide +kernel) (by decide +kernel)
theorem wd_98 : Cond.fieldLink "StageMachine$Stock" 38 "StageMachine$Stock" "wantCount" "I" ∈ gtb := gtb_mem (i := 154) (by decide +kernel) (by decide +kernel)
theorem wd_99 : Cond.fieldLink "StageMachine$Stock" 81 "StageMachine$Stock" "givenCount" "I" ∈ gtb := gtb_mem (i := 155) (by decide +kernel) (by decide +kernel)
theorem wd_115 : Cond.classLink "StageMachine" 30 "StageMachine$Stage" ∈ gtb := gtb_mem (i := 171) (by decide +kernel) (by decide +kernel)
theorem wd_116 : Cond.instantiable "StageMachine$Stage" 15 ∈ gtb := gtb_mem (i := 172) (by decide +kernel) (by decide +kernel)
theorem wd_118 : Cond.instanceMethod ⟨"StageMachine$Stage", "<init>", "()V"⟩ ∈ gtb := gtb_mem (i := 174) (by decide +kernel) (by decide +kernel)
set_option maxRecDepth 30000 in
theorem wd_119 : Cond.code ⟨"StageMachine$Stage", "<init>", "()V"⟩ prog_7_method_1_code 1 none ∈ gtb := gtb_mem (i := 175) rfl (by decide +kernel)
theorem wd_120 : Cond.methodLink "StageMachine$Stage" 3 ⟨"java/lang/Object", "<init>", "()V"⟩ ∈ gtb := gtb_mem (i := 176) (by decide +kernel) (by decide +kernel)
theorem wd_121 : Cond.classLink "StageMachine$Stage" 9 "StageMachine$Thing" ∈ gtb := gtb_mem (i := 177) (by decide +kernel) (by decide +kernel)
theorem wd_123 : Cond.classLink "StageMachine$Stage" 17 "StageMachine$Drum" ∈ gtb := gtb_mem (i := 179) (by decide +kernel) (by decide +kernel)
theorem wd_125 : Cond.classLink "StageMachine$Stage" 23 "StageMachine$Rope" ∈ gtb := gtb_mem (i := 181) (by decide +kernel) (by decide +kernel)
theorem wd_127 : Cond.constant "StageMachine$Stage" 42 (99999) ∈ gtb := gtb_mem (i := 183) (by decide +kernel) (by decide +kernel)
theorem wd_128 : Cond.fieldLink "StageMachine$Stage" 11 "StageMachine$Stage" "things" "[LStageMachine$Thing;" ∈ gtb := gtb_mem (i := 184) (by decide +kernel) (by decide +kernel)
theorem wd_129 : Cond.fieldLink "StageMachine$Change" 52 "StageMachine$Stage" "things" "[LStageMachine$Thing;" ∈ gtb := gtb_mem (i := 185) (by decide +kernel) (by decide +kernel)
theorem wd_130 : Cond.fieldLink "StageMachine$Turning" 97 "StageMachine$Stage" "things" "[LStageMachine$Thing;" ∈ gtb := gtb_mem (i := 186) (by decide +kernel) (by decide +kernel)
theorem wd_131 : Cond.fieldLink "StageMachine$Stage" 19 "StageMachine$Stage" "drums" "[LStageMachine$Drum;" ∈ gtb := gtb_mem (i := 187) (by decide +kernel) (by decide +kernel)
theorem wd_132 : Cond.fieldLink "StageMachine$Change" 100 "StageMachine$Stage" "drums" "[LStageMachine$Drum;" ∈ gtb := gtb_mem (i := 188) (by decide +kernel) (by decide +kernel)
theorem wd_133 : Cond.fieldLink "StageMachine$Stage" 25 "StageMachine$Stage" "ropes" "[LStageMachine$Rope;" ∈ gtb := gtb_mem (i := 189) (by decide +kernel) (by decide +kernel)
theorem wd_134 : Cond.fieldLink "StageMachine$Change" 74 "StageMachine$Stage" "ropes" "[LStageMachine$Rope;" ∈ gtb := gtb_mem (i := 190) (by decide +kernel) (by decide +kernel)
theorem wd_135 : Cond.fieldLink "StageMachine$Turning" 82 "StageMachine$Stage" "ropes" "[LStageMachine$Rope;" ∈ gtb := gtb_mem (i := 191) (by decide +kernel) (by decide +kernel)
theorem wd_136 : Cond.fieldLink "StageMachine$Stage" 29 "StageMachine$Stage" "weights" "[I" ∈ gtb := gtb_mem (i := 192) (by decide +kernel) (by decide +kernel)
theorem wd_137 : Cond.fieldLink "StageMachine$Stage" 33 "StageMachine$Stage" "keptWeights" "[I" ∈ gtb := gtb_mem (i := 193) (by decide +kernel) (by decide +kernel)
theorem wd_138 : Cond.fieldLink "StageMachine$Stage" 36 "StageMachine$Stage" "catches" "[I" ∈ gtb := gtb_mem (i := 194) (by decide +kernel) (by decide +kernel)
theorem wd_139 : Cond.fieldLink "StageMachine$Stage" 39 "StageMachine$Stage" "catchCounts" "[I" ∈ gtb := gtb_mem (i := 195) (by decide +kernel) (by decide +kernel)
theorem wd_140 : Cond.fieldLink "StageMachine$Stage" 47 "StageMachine$Stage" "thingCount" "I" ∈ gtb := gtb_mem (i := 196) (by decide +kernel) (by decide +kernel)
theorem wd_141 : Cond.fieldLink "StageMachine$Change" 46 "StageMachine$Stage" "thingCount" "I" ∈ gtb := gtb_mem (i := 197) (by decide +kernel) (by decide +kernel)
theorem wd_142 : Cond.fieldLink "StageMachine$Turning" 94 "StageMachine$Stage" "thingCount" "I" ∈ gtb := gtb_mem (i := 198) (by decide +kernel) (by decide +kernel)
theorem wd_143 : Cond.fieldLink "StageMachine" 192 "StageMachine$Stage" "thingCount" "I" ∈ gtb := gtb_mem (i := 199) (by decide +kernel) (by decide +kernel)
theorem wd_144 : Cond.fieldLink "StageMachine$Stage" 54 "StageMachine$Stage" "drumCount" "I" ∈ gtb := gtb_mem (i := 200) (by decide +kernel) (by decide +kernel)
theorem wd_145 : Cond.fieldLink "StageMachine$Change" 97 "StageMachine$Stage" "drumCount" "I" ∈ gtb := gtb_mem (i := 201) (by decide +kernel) (by decide +kernel)
theorem wd_146 : Cond.fieldLink "StageMachine" 195 "StageMachine$Stage" "drumCount" "I" ∈ gtb := gtb_mem (i := 202) (by decide +kernel) (by decide +kernel)
theorem wd_147 : Cond.fieldLink "StageMachine$Change" 71 "StageMachine$Stage" "ropeCount" "I" ∈ gtb := gtb_mem (i := 203) (by decide +kernel) (by decide +kernel)
theorem wd_148 : Cond.fieldLink "StageMachine$Stage" 57 "StageMachine$Stage" "ropeCount" "I" ∈ gtb := gtb_mem (i := 204) (by decide +kernel) (by decide +kernel)
theorem wd_149 : Cond.fieldLink "StageMachine$Turning" 79 "StageMachine$Stage" "ropeCount" "I" ∈ gtb := gtb_mem (i := 205) (by decide +kernel) (by decide +kernel)
theorem wd_150 : Cond.fieldLink "StageMachine" 198 "StageMachine$Stage" "ropeCount" "I" ∈ gtb := gtb_mem (i := 206) (by decide +kernel) (by decide +kernel)
theorem wd_151 : Cond.fieldLink "StageMachine$Stage" 43 "StageMachine$Stage" "bound" "I" ∈ gtb := gtb_mem (i := 207) (by decide +kernel) (by decide +kernel)
theorem wd_152 : Cond.fieldLink "StageMachine$Turning" 120 "StageMachine$Stage" "bound" "I" ∈ gtb := gtb_mem (i := 208) (by decide +kernel) (by decide +kernel)
theorem wd_153 : Cond.fieldLink "StageMachine$Stage" 163 "StageMachine$Stage" "shaft" "I" ∈ gtb := gtb_mem (i := 209) (by decide +kernel) (by decide +kernel)
theorem wd_154 : Cond.fieldLink "StageMachine" 204 "StageMachine$Stage" "shaft" "I" ∈ gtb := gtb_mem (i := 210) (by decide +kernel) (by decide +kernel)
theorem wd_155 : Cond.fieldLink "StageMachine$Stage" 166 "StageMachine$Stage" "wear" "I" ∈ gtb := gtb_mem (i := 211) (by decide +kernel) (by decide +kernel)
theorem wd_156 : Cond.fieldLink "StageMachine" 216 "StageMachine$Stage" "wear" "I" ∈ gtb := gtb_mem (i := 212) (by decide +kernel) (by decide +kernel)
theorem wd_157 : Cond.fieldLink "StageMachine$Stage" 210 "StageMachine$Stage" "keptShaft" "I" ∈ gtb := gtb_mem (i := 213) (by decide +kernel) (by decide +kernel)
theorem wd_158 : Cond.fieldLink "StageMachine$Stage" 213 "StageMachine$Stage" "keptWear" "I" ∈ gtb := gtb_mem (i := 214) (by decide +kernel) (by decide +kernel)
theorem wd_190 : Cond.classLink "StageMachine" 37 "StageMachine$Turning" ∈ gtb := gtb_mem (i := 246) (by decide +kernel) (by decide +kernel)
theorem wd_191 : Cond.instantiable "StageMachine$Turning" 3 ∈ gtb := gtb_mem (i := 247) (by decide +kernel) (by decide +kernel)
theorem wd_192 : Cond.methodLink "StageMachine" 39 ⟨"StageMachine$Turning", "<init>", "(LStageMachine$Stage;)V"⟩ ∈ gtb := gtb_mem (i := 248) (by decide +kernel) (by decide +kernel)
theorem wd_193 : Cond.instanceMethod ⟨"StageMachine$Turning", "<init>", "(LStageMachine$Stage;)V"⟩ ∈ gtb := gtb_mem (i := 249) (by decide +kernel) (by decide +kernel)
set_option maxRecDepth 30000 in
theorem wd_194 : Cond.code ⟨"StageMachine$Turning", "<init>", "(LStageMachine$Stage;)V"⟩ prog_12_method_1_code 2 none ∈ gtb := gtb_mem (i := 250) rfl (by decide +kernel)
theorem wd_195 : Cond.methodLink "StageMachine$Turning" 3 ⟨"java/lang/Object", "<init>", "()V"⟩ ∈ gtb := gtb_mem (i := 251) (by decide +kernel) (by decide +kernel)
theorem wd_196 : Cond.classLink "StageMachine$Turning" 9 "StageMachine$Stop" ∈ gtb := gtb_mem (i := 252) (by decide +kernel) (by decide +kernel)
theorem wd_197 : Cond.instantiable "StageMachine$Stop" 3 ∈ gtb := gtb_mem (i := 253) (by decide +kernel) (by decide +kernel)
theorem wd_199 : Cond.instanceMethod ⟨"StageMachine$Stop", "<init>", "()V"⟩ ∈ gtb := gtb_mem (i := 255) (by decide +kernel) (by decide +kernel)
set_option maxRecDepth 30000 in
theorem wd_200 : Cond.code ⟨"StageMachine$Stop", "<init>", "()V"⟩ prog_9_method_1_code 1 none ∈ gtb := gtb_mem (i := 256) rfl (by decide +kernel)
theorem wd_201 : Cond.methodLink "StageMachine$Stop" 3 ⟨"java/lang/Object", "<init>", "()V"⟩ ∈ gtb := gtb_mem (i := 257) (by decide +kernel) (by decide +kernel)
theorem wd_202 : Cond.fieldLink "StageMachine$Stop" 18 "StageMachine$Stop" "kind" "I" ∈ gtb := gtb_mem (i := 258) (by decide +kernel) (by decide +kernel)
theorem wd_203 : Cond.fieldLink "StageMachine$Turning" 29 "StageMachine$Stop" "kind" "I" ∈ gtb := gtb_mem (i := 259) (by decide +kernel) (by decide +kernel)
theorem wd_204 : Cond.fieldLink "StageMachine$Stop" 9 "StageMachine$Stop" "thing" "I" ∈ gtb := gtb_mem (i := 260) (by decide +kernel) (by decide +kernel)
theorem wd_205 : Cond.fieldLink "StageMachine$Turning" 33 "StageMachine$Stop" "thing" "I" ∈ gtb := gtb_mem (i := 261) (by decide +kernel) (by decide +kernel)
theorem wd_206 : Cond.fieldLink "StageMachine$Stop" 15 "StageMachine$Stop" "other" "I" ∈ gtb := gtb_mem (i := 262) (by decide +kernel) (by decide +kernel)
theorem wd_207 : Cond.fieldLink "StageMachine$Turning" 36 "StageMachine$Stop" "other" "I" ∈ gtb := gtb_mem (i := 263) (by decide +kernel) (by decide +kernel)
theorem wd_215 : Cond.fieldLink "StageMachine$Turning" 21 "StageMachine$Turning" "stage" "LStageMachine$Stage;" ∈ gtb := gtb_mem (i := 271) (by decide +kernel) (by decide +kernel)
theorem wd_216 : Cond.fieldLink "StageMachine$Turning" 12 "StageMachine$Turning" "latest" "LStageMachine$Stop;" ∈ gtb := gtb_mem (i := 272) (by decide +kernel) (by decide +kernel)
theorem wd_217 : Cond.fieldLink "StageMachine" 113 "StageMachine$Turning" "latest" "LStageMachine$Stop;" ∈ gtb := gtb_mem (i := 273) (by decide +kernel) (by decide +kernel)
theorem wd_218 : Cond.fieldLink "StageMachine$Turning" 18 "StageMachine$Turning" "ahead" "LStageMachine$Stop;" ∈ gtb := gtb_mem (i := 274) (by decide +kernel) (by decide +kernel)
theorem wd_226 : Cond.classLink "StageMachine" 46 "StageMachine$Change" ∈ gtb := gtb_mem (i := 282) (by decide +kernel) (by decide +kernel)
theorem wd_227 : Cond.instantiable "StageMachine$Change" 9 ∈ gtb := gtb_mem (i := 283) (by decide +kernel) (by decide +kernel)
theorem wd_228 : Cond.methodLink "StageMachine" 48 ⟨"StageMachine$Change", "<init>", "(LStageMachine$Stage;)V"⟩ ∈ gtb := gtb_mem (i := 284) (by decide +kernel) (by decide +kernel)
theorem wd_229 : Cond.instanceMethod ⟨"StageMachine$Change", "<init>", "(LStageMachine$Stage;)V"⟩ ∈ gtb := gtb_mem (i := 285) (by decide +kernel) (by decide +kernel)
set_option maxRecDepth 30000 in
theorem wd_230 : Cond.code ⟨"StageMachine$Change", "<init>", "(LStageMachine$Stage;)V"⟩ prog_3_method_1_code 2 none ∈ gtb := gtb_mem (i := 286) rfl (by decide +kernel)
theorem wd_231 : Cond.methodLink "StageMachine$Change" 3 ⟨"java/lang/Object", "<init>", "()V"⟩ ∈ gtb := gtb_mem (i := 287) (by decide +kernel) (by decide +kernel)
theorem wd_232 : Cond.fieldLink "StageMachine$Change" 21 "StageMachine$Change" "stage" "LStageMachine$Stage;" ∈ gtb := gtb_mem (i := 288) (by decide +kernel) (by decide +kernel)
theorem wd_233 : Cond.fieldLink "StageMachine$Change" 9 "StageMachine$Change" "ropes" "[I" ∈ gtb := gtb_mem (i := 289) (by decide +kernel) (by decide +kernel)
theorem wd_234 : Cond.fieldLink "StageMachine$Change" 15 "StageMachine$Change" "drums" "[I" ∈ gtb := gtb_mem (i := 290) (by decide +kernel) (by decide +kernel)
theorem wd_235 : Cond.fieldLink "StageMachine$Change" 18 "StageMachine$Change" "shares" "[I" ∈ gtb := gtb_mem (i := 291) (by decide +kernel) (by decide +kernel)
theorem wd_236 : Cond.fieldLink "StageMachine$Change" 33 "StageMachine$Change" "asked" "Z" ∈ gtb := gtb_mem (i := 292) (by decide +kernel) (by decide +kernel)
theorem wd_237 : Cond.fieldLink "StageMachine$Change" 37 "StageMachine$Change" "found" "Z" ∈ gtb := gtb_mem (i := 293) (by decide +kernel) (by decide +kernel)
theorem wd_238 : Cond.fieldLink "StageMachine$Change" 112 "StageMachine$Change" "twos" "I" ∈ gtb := gtb_mem (i := 294) (by decide +kernel) (by decide +kernel)
theorem wd_239 : Cond.fieldLink "StageMachine$Change" 115 "StageMachine$Change" "threes" "I" ∈ gtb := gtb_mem (i := 295) (by decide +kernel) (by decide +kernel)
theorem wd_240 : Cond.fieldLink "StageMachine$Change" 118 "StageMachine$Change" "fives" "I" ∈ gtb := gtb_mem (i := 296) (by decide +kernel) (by decide +kernel)
theorem wd_260 : Cond.fieldLink "StageMachine" 33 "StageMachine" "stage" "LStageMachine$Stage;" ∈ gtb := gtb_mem (i := 316) (by decide +kernel) (by decide +kernel)
theorem wd_261 : Cond.fieldLink "StageMachine" 42 "StageMachine" "turning" "LStageMachine$Turning;" ∈ gtb := gtb_mem (i := 317) (by decide +kernel) (by decide +kernel)
theorem wd_262 : Cond.fieldLink "StageMachine" 49 "StageMachine" "latestChange" "LStageMachine$Change;" ∈ gtb := gtb_mem (i := 318) (by decide +kernel) (by decide +kernel)
theorem wd_263 : Cond.fieldLink "StageMachine" 10 "StageMachine" "tape" "LStageMachine$Tape;" ∈ gtb := gtb_mem (i := 319) (by decide +kernel) (by decide +kernel)
theorem wd_264 : Cond.fieldLink "StageMachine" 19 "StageMachine" "candles" "LStageMachine$Candles;" ∈ gtb := gtb_mem (i := 320) (by decide +kernel) (by decide +kernel)
theorem wd_265 : Cond.fieldLink "StageMachine" 26 "StageMachine" "stock" "LStageMachine$Stock;" ∈ gtb := gtb_mem (i := 321) (by decide +kernel) (by decide +kernel)
theorem wd_266 : Cond.fieldLink "StageMachine" 157 "StageMachine" "cueCanGoBack" "Z" ∈ gtb := gtb_mem (i := 322) (by decide +kernel) (by decide +kernel)
theorem wd_282 : Cond.methodLink "StageMachineLaw" 13 ⟨"StageMachine", "thing", "(IIII)I"⟩ ∈ gtb := gtb_mem (i := 338) (by decide +kernel) (by decide +kernel)
theorem wd_283 : Cond.instanceMethod ⟨"StageMachine", "thing", "(IIII)I"⟩ ∈ gtb := gtb_mem (i := 339) (by decide +kernel) (by decide +kernel)
theorem wd_284 : Cond.selects "StageMachine" ⟨"StageMachine", "thing", "(IIII)I"⟩ ⟨"StageMachine", "thing", "(IIII)I"⟩ ∈ gtb := gtb_mem (i := 340) (by decide +kernel) (by decide +kernel)
set_option maxRecDepth 30000 in
theorem wd_285 : Cond.code ⟨"StageMachine", "thing", "(IIII)I"⟩ prog_1_method_2_code 6 (some .int) ∈ gtb := gtb_mem (i := 341) rfl (by decide +kernel)
theorem wd_286 : Cond.methodLink "StageMachine" 53 ⟨"StageMachine$Stage", "addThing", "(IIII)I"⟩ ∈ gtb := gtb_mem (i := 342) (by decide +kernel) (by decide +kernel)
theorem wd_287 : Cond.instanceMethod ⟨"StageMachine$Stage", "addThing", "(IIII)I"⟩ ∈ gtb := gtb_mem (i := 343) (by decide +kernel) (by decide +kernel)
theorem wd_288 : Cond.selects "StageMachine$Stage" ⟨"StageMachine$Stage", "addThing", "(IIII)I"⟩ ⟨"StageMachine$Stage", "addThing", "(IIII)I"⟩ ∈ gtb := gtb_mem (i := 344) (by decide +kernel) (by decide +kernel)
set_option maxRecDepth 30000 in
theorem wd_289 : Cond.code ⟨"StageMachine$Stage", "addThing", "(IIII)I"⟩ prog_7_method_5_code 11 (some .int) ∈ gtb := gtb_mem (i := 345) rfl (by decide +kernel)
theorem wd_291 : Cond.static ⟨"StageMachine", "isWithin", "(III)Z"⟩ ∈ gtb := gtb_mem (i := 347) (by decide +kernel) (by decide +kernel)
set_option maxRecDepth 30000 in
theorem wd_292 : Cond.code ⟨"StageMachine", "isWithin", "(III)Z"⟩ prog_1_method_38_code 3 (some .boolean) ∈ gtb := gtb_mem (i := 348) rfl (by decide +kernel)
theorem wd_293 : Cond.methodLink "StageMachine$Stage" 60 ⟨"StageMachine$Stage", "isStagePlace", "(I)Z"⟩ ∈ gtb := gtb_mem (i := 349) (by decide +kernel) (by decide +kernel)
theorem wd_294 : Cond.static ⟨"StageMachine$Stage", "isStagePlace", "(I)Z"⟩ ∈ gtb := gtb_mem (i := 350) (by decide +kernel) (by decide +kernel)
set_option maxRecDepth 30000 in
theorem wd_295 : Cond.code ⟨"StageMachine$Stage", "isStagePlace", "(I)Z"⟩ prog_7_method_24_code 1 (some .boolean) ∈ gtb := gtb_mem (i := 351) rfl (by decide +kernel)
theorem wd_296 : Cond.methodLink "StageMachine$Stage" 64 ⟨"StageMachine$Stage", "isClear", "(LStageMachine$Thing;III)Z"⟩ ∈ gtb := gtb_mem (i := 352) (by decide +kernel) (by decide +kernel)
theorem wd_297 : Cond.instanceMethod ⟨"StageMachine$Stage", "isClear", "(LStageMachine$Thing;III)Z"⟩ ∈ gtb := gtb_mem (i := 353) (by decide +kernel) (by decide +kernel)
theorem wd_298 : Cond.selects "StageMachine$Stage" ⟨"StageMachine$Stage", "isClear", "(LStageMachine$Thing;III)Z"⟩ ⟨"StageMachine$Stage", "isClear", "(LStageMachine$Thing;III)Z"⟩ ∈ gtb := gtb_mem (i := 354) (by decide +kernel) (by decide +kernel)
set_option maxRecDepth 30000 in
theorem wd_299 : Cond.code ⟨"StageMachine$Stage", "isClear", "(LStageMachine$Thing;III)Z"⟩ prog_7_method_9_code 8 (some .boolean) ∈ gtb := gtb_mem (i := 355) rfl (by decide +kernel)
theorem wd_301 : Cond.static ⟨"StageMachine", "overlap", "(IIII)Z"⟩ ∈ gtb := gtb_mem (i := 357) (by decide +kernel) (by decide +kernel)
set_option maxRecDepth 30000 in
theorem wd_302 : Cond.code ⟨"StageMachine", "overlap", "(IIII)Z"⟩ prog_1_method_41_code 4 (some .boolean) ∈ gtb := gtb_mem (i := 358) rfl (by decide +kernel)
theorem wd_303 : Cond.instantiable "StageMachine$Thing" 12 ∈ gtb := gtb_mem (i := 359) (by decide +kernel) (by decide +kernel)
theorem wd_304 : Cond.methodLink "StageMachine$Stage" 68 ⟨"StageMachine$Thing", "<init>", "(IIIIIII)V"⟩ ∈ gtb := gtb_mem (i := 360) (by decide +kernel) (by decide +kernel)
theorem wd_305 : Cond.instanceMethod ⟨"StageMachine$Thing", "<init>", "(IIIIIII)V"⟩ ∈ gtb := gtb_mem (i := 361) (by decide +kernel) (by decide +kernel)
set_option maxRecDepth 30000 in
theorem wd_306 : Cond.code ⟨"StageMachine$Thing", "<init>", "(IIIIIII)V"⟩ prog_11_method_1_code 8 none ∈ gtb := gtb_mem (i := 362) rfl (by decide +kernel)
theorem wd_307 : Cond.methodLink "StageMachine$Thing" 3 ⟨"java/lang/Object", "<init>", "()V"⟩ ∈ gtb := gtb_mem (i := 363) (by decide +kernel) (by decide +kernel)
theorem wd_308 : Cond.methodLink "StageMachine$Thing" 37 ⟨"java/util/Arrays", "fill", "([II)V"⟩ ∈ gtb := gtb_mem (i := 364) (by decide +kernel) (by decide +kernel)
theorem wd_309 : Cond.static ⟨"java/util/Arrays", "fill", "([II)V"⟩ ∈ gtb := gtb_mem (i := 365) (by decide +kernel) (by decide +kernel)
set_option maxRecDepth 30000 in
theorem wd_310 : Cond.code ⟨"java/util/Arrays", "fill", "([II)V"⟩ prog_18_method_103_code 4 none ∈ gtb := gtb_mem (i := 366) rfl (by decide +kernel)
theorem wd_311 : Cond.fieldLink "StageMachine$Thing" 15 "StageMachine$Thing" "number" "I" ∈ gtb := gtb_mem (i := 367) (by decide +kernel) (by decide +kernel)
theorem wd_312 : Cond.fieldLink "StageMachine$Rope" 28 "StageMachine$Thing" "number" "I" ∈ gtb := gtb_mem (i := 368) (by decide +kernel) (by decide +kernel)
theorem wd_313 : Cond.fieldLink "StageMachine$Change" 94 "StageMachine$Thing" "number" "I" ∈ gtb := gtb_mem (i := 369) (by decide +kernel) (by decide +kernel)
theorem wd_314 : Cond.fieldLink "StageMachine$Thing" 19 "StageMachine$Thing" "lane" "I" ∈ gtb := gtb_mem (i := 370) (by decide +kernel) (by decide +kernel)
theorem wd_315 : Cond.fieldLink "StageMachine$Stage" 81 "StageMachine$Thing" "lane" "I" ∈ gtb := gtb_mem (i := 371) (by decide +kernel) (by decide +kernel)
theorem wd_316 : Cond.fieldLink "StageMachine$Thing" 25 "StageMachine$Thing" "width" "I" ∈ gtb := gtb_mem (i := 372) (by decide +kernel) (by decide +kernel)
theorem wd_317 : Cond.fieldLink "StageMachine$Stage" 90 "StageMachine$Thing" "width" "I" ∈ gtb := gtb_mem (i := 373) (by decide +kernel) (by decide +kernel)
theorem wd_318 : Cond.fieldLink "StageMachine$Thing" 34 "StageMachine$Thing" "weight" "I" ∈ gtb := gtb_mem (i := 374) (by decide +kernel) (by decide +kernel)
theorem wd_319 : Cond.fieldLink "StageMachine$Rope" 50 "StageMachine$Thing" "weight" "I" ∈ gtb := gtb_mem (i := 375) (by decide +kernel) (by decide +kernel)
theorem wd_320 : Cond.fieldLink "StageMachine$Thing" 28 "StageMachine$Thing" "least" "I" ∈ gtb := gtb_mem (i := 376) (by decide +kernel) (by decide +kernel)
theorem wd_321 : Cond.fieldLink "StageMachine$Turning" 106 "StageMachine$Thing" "least" "I" ∈ gtb := gtb_mem (i := 377) (by decide +kernel) (by decide +kernel)
theorem wd_322 : Cond.fieldLink "StageMachine$Thing" 31 "StageMachine$Thing" "most" "I" ∈ gtb := gtb_mem (i := 378) (by decide +kernel) (by decide +kernel)
theorem wd_323 : Cond.fieldLink "StageMachine$Turning" 109 "StageMachine$Thing" "most" "I" ∈ gtb := gtb_mem (i := 379) (by decide +kernel) (by decide +kernel)
theorem wd_324 : Cond.fieldLink "StageMachine$Thing" 9 "StageMachine$Thing" "sceneAt" "[I" ∈ gtb := gtb_mem (i := 380) (by decide +kernel) (by decide +kernel)
theorem wd_325 : Cond.fieldLink "StageMachine$Change" 56 "StageMachine$Thing" "sceneAt" "[I" ∈ gtb := gtb_mem (i := 381) (by decide +kernel) (by decide +kernel)
theorem wd_326 : Cond.fieldLink "StageMachine$Thing" 22 "StageMachine$Thing" "at" "I" ∈ gtb := gtb_mem (i := 382) (by decide +kernel) (by decide +kernel)
theorem wd_327 : Cond.fieldLink "StageMachine$Change" 61 "StageMachine$Thing" "at" "I" ∈ gtb := gtb_mem (i := 383) (by decide +kernel) (by decide +kernel)
theorem wd_328 : Cond.fieldLink "StageMachine$Rope" 73 "StageMachine$Thing" "at" "I" ∈ gtb := gtb_mem (i := 384) (by decide +kernel) (by decide +kernel)
theorem wd_329 : Cond.fieldLink "StageMachine$Stage" 87 "StageMachine$Thing" "at" "I" ∈ gtb := gtb_mem (i := 385) (by decide +kernel) (by decide +kernel)
theorem wd_330 : Cond.fieldLink "StageMachine$Thing" 57 "StageMachine$Thing" "trialAt" "I" ∈ gtb := gtb_mem (i := 386) (by decide +kernel) (by decide +kernel)
theorem wd_331 : Cond.fieldLink "StageMachine$Turning" 101 "StageMachine$Thing" "trialAt" "I" ∈ gtb := gtb_mem (i := 387) (by decide +kernel) (by decide +kernel)
theorem wd_332 : Cond.fieldLink "StageMachine$Stage" 154 "StageMachine$Thing" "trialAt" "I" ∈ gtb := gtb_mem (i := 388) (by decide +kernel) (by decide +kernel)
theorem wd_333 : Cond.fieldLink "StageMachine$Thing" 43 "StageMachine$Thing" "tied" "LStageMachine$Rope;" ∈ gtb := gtb_mem (i := 389) (by decide +kernel) (by decide +kernel)
theorem wd_334 : Cond.fieldLink "StageMachine$Change" 121 "StageMachine$Thing" "tied" "LStageMachine$Rope;" ∈ gtb := gtb_mem (i := 390) (by decide +kernel) (by decide +kernel)
theorem wd_335 : Cond.fieldLink "StageMachine$Rope" 76 "StageMachine$Thing" "tied" "LStageMachine$Rope;" ∈ gtb := gtb_mem (i := 391) (by decide +kernel) (by decide +kernel)
theorem wd_336 : Cond.fieldLink "StageMachine$Stage" 113 "StageMachine$Thing" "tied" "LStageMachine$Rope;" ∈ gtb := gtb_mem (i := 392) (by decide +kernel) (by decide +kernel)
theorem wd_337 : Cond.fieldLink "StageMachine$Stage" 189 "StageMachine$Thing" "keptAt" "I" ∈ gtb := gtb_mem (i := 393) (by decide +kernel) (by decide +kernel)
theorem wd_338 : Cond.fieldLink "StageMachine$Stage" 192 "StageMachine$Thing" "keptTied" "LStageMachine$Rope;" ∈ gtb := gtb_mem (i := 394) (by decide +kernel) (by decide +kernel)
theorem wd_364 : Cond.methodLink "StageMachine" 57 ⟨"StageMachine", "deed", "(IZ)I"⟩ ∈ gtb := gtb_mem (i := 420) (by decide +kernel) (by decide +kernel)
theorem wd_366 : Cond.instanceMethod ⟨"StageMachine", "deed", "(IZ)I"⟩ ∈ gtb := gtb_mem (i := 422) (by decide +kernel) (by decide +kernel)
set_option maxRecDepth 30000 in
theorem wd_367 : Cond.code ⟨"StageMachine", "deed", "(IZ)I"⟩ prog_1_method_35_code 3 (some .int) ∈ gtb := gtb_mem (i := 423) rfl (by decide +kernel)
theorem wd_368 : Cond.methodLink "StageMachineLaw" 18 ⟨"StageMachine", "ofThing", "(II)I"⟩ ∈ gtb := gtb_mem (i := 424) (by decide +kernel) (by decide +kernel)
theorem wd_369 : Cond.instanceMethod ⟨"StageMachine", "ofThing", "(II)I"⟩ ∈ gtb := gtb_mem (i := 425) (by decide +kernel) (by decide +kernel)
theorem wd_370 : Cond.selects "StageMachine" ⟨"StageMachine", "ofThing", "(II)I"⟩ ⟨"StageMachine", "ofThing", "(II)I"⟩ ∈ gtb := gtb_mem (i := 426) (by decide +kernel) (by decide +kernel)
set_option maxRecDepth 30000 in
theorem wd_371 : Cond.code ⟨"StageMachine", "ofThing", "(II)I"⟩ prog_1_method_3_code 4 (some .int) ∈ gtb := gtb_mem (i := 427) rfl (by decide +kernel)
theorem wd_372 : Cond.methodLink "StageMachine" 61 ⟨"StageMachine$Stage", "thingNumbered", "(I)LStageMachine$Thing;"⟩ ∈ gtb := gtb_mem (i := 428) (by decide +kernel) (by decide +kernel)
theorem wd_373 : Cond.instanceMethod ⟨"StageMachine$Stage", "thingNumbered", "(I)LStageMachine$Thing;"⟩ ∈ gtb := gtb_mem (i := 429) (by decide +kernel) (by decide +kernel)
theorem wd_374 : Cond.selects "StageMachine$Stage" ⟨"StageMachine$Stage", "thingNumbered", "(I)LStageMachine$Thing;"⟩ ⟨"StageMachine$Stage", "thingNumbered", "(I)LStageMachine$Thing;"⟩ ∈ gtb := gtb_mem (i := 430) (by decide +kernel) (by decide +kernel)
set_option maxRecDepth 30000 in
theorem wd_375 : Cond.code ⟨"StageMachine$Stage", "thingNumbered", "(I)LStageMachine$Thing;"⟩ prog_7_method_2_code 2 (Option.some (FieldType.object "StageMachine$Thing")) ∈ gtb := gtb_mem (i := 431) rfl (by decide +kernel)
theorem wd_376 : Cond.methodLink "StageMachine" 65 ⟨"StageMachine$Thing", "tell", "(I)I"⟩ ∈ gtb := gtb_mem (i := 432) (by decide +kernel) (by decide +kernel)
theorem wd_377 : Cond.instanceMethod ⟨"StageMachine$Thing", "tell", "(I)I"⟩ ∈ gtb := gtb_mem (i := 433) (by decide +kernel) (by decide +kernel)
theorem wd_378 : Cond.selects "StageMachine$Thing" ⟨"StageMachine$Thing", "tell", "(I)I"⟩ ⟨"StageMachine$Thing", "tell", "(I)I"⟩ ∈ gtb := gtb_mem (i := 434) (by decide +kernel) (by decide +kernel)
set_option maxRecDepth 30000 in
theorem wd_379 : Cond.code ⟨"StageMachine$Thing", "tell", "(I)I"⟩ prog_11_method_2_code 2 (some .int) ∈ gtb := gtb_mem (i := 435) rfl (by decide +kernel)
theorem wd_380 : Cond.methodLink "StageMachineLaw" 23 ⟨"StageMachine", "on", "(I)I"⟩ ∈ gtb := gtb_mem (i := 436) (by decide +kernel) (by decide +kernel)
theorem wd_381 : Cond.instanceMethod ⟨"StageMachine", "on", "(I)I"⟩ ∈ gtb := gtb_mem (i := 437) (by decide +kernel) (by decide +kernel)
theorem wd_382 : Cond.selects "StageMachine" ⟨"StageMachine", "on", "(I)I"⟩ ⟨"StageMachine", "on", "(I)I"⟩ ∈ gtb := gtb_mem (i := 438) (by decide +kernel) (by decide +kernel)
set_option maxRecDepth 30000 in
theorem wd_383 : Cond.code ⟨"StageMachine", "on", "(I)I"⟩ prog_1_method_4_code 2 (some .int) ∈ gtb := gtb_mem (i := 439) rfl (by decide +kernel)
theorem wd_384 : Cond.methodLink "StageMachine" 71 ⟨"StageMachine$Stage", "standingOn", "(I)I"⟩ ∈ gtb := gtb_mem (i := 440) (by decide +kernel) (by decide +kernel)
theorem wd_385 : Cond.instanceMethod ⟨"StageMachine$Stage", "standingOn", "(I)I"⟩ ∈ gtb := gtb_mem (i := 441) (by decide +kernel) (by decide +kernel)
theorem wd_386 : Cond.selects "StageMachine$Stage" ⟨"StageMachine$Stage", "standingOn", "(I)I"⟩ ⟨"StageMachine$Stage", "standingOn", "(I)I"⟩ ∈ gtb := gtb_mem (i := 442) (by decide +kernel) (by decide +kernel)
set_option maxRecDepth 30000 in
theorem wd_387 : Cond.code ⟨"StageMachine$Stage", "standingOn", "(I)I"⟩ prog_7_method_8_code 4 (some .int) ∈ gtb := gtb_mem (i := 443) rfl (by decide +kernel)
theorem wd_388 : Cond.methodLink "StageMachine$Stage" 84 ⟨"StageMachine$Thing", "covers", "(I)Z"⟩ ∈ gtb := gtb_mem (i := 444) (by decide +kernel) (by decide +kernel)
theorem wd_389 : Cond.instanceMethod ⟨"StageMachine$Thing", "covers", "(I)Z"⟩ ∈ gtb := gtb_mem (i := 445) (by decide +kernel) (by decide +kernel)
theorem wd_390 : Cond.selects "StageMachine$Thing" ⟨"StageMachine$Thing", "covers", "(I)Z"⟩ ⟨"StageMachine$Thing", "covers", "(I)Z"⟩ ∈ gtb := gtb_mem (i := 446) (by decide +kernel) (by decide +kernel)
set_option maxRecDepth 30000 in
theorem wd_391 : Cond.code ⟨"StageMachine$Thing", "covers", "(I)Z"⟩ prog_11_method_4_code 2 (some .boolean) ∈ gtb := gtb_mem (i := 447) rfl (by decide +kernel)
theorem wd_392 : Cond.methodLink "StageMachineLaw" 28 ⟨"StageMachine", "drum", "(I)I"⟩ ∈ gtb := gtb_mem (i := 448) (by decide +kernel) (by decide +kernel)
theorem wd_393 : Cond.instanceMethod ⟨"StageMachine", "drum", "(I)I"⟩ ∈ gtb := gtb_mem (i := 449) (by decide +kernel) (by decide +kernel)
theorem wd_394 : Cond.selects "StageMachine" ⟨"StageMachine", "drum", "(I)I"⟩ ⟨"StageMachine", "drum", "(I)I"⟩ ∈ gtb := gtb_mem (i := 450) (by decide +kernel) (by decide +kernel)
set_option maxRecDepth 30000 in
theorem wd_395 : Cond.code ⟨"StageMachine", "drum", "(I)I"⟩ prog_1_method_5_code 3 (some .int) ∈ gtb := gtb_mem (i := 451) rfl (by decide +kernel)
theorem wd_396 : Cond.methodLink "StageMachine" 74 ⟨"StageMachine$Stage", "addDrum", "(I)I"⟩ ∈ gtb := gtb_mem (i := 452) (by decide +kernel) (by decide +kernel)
theorem wd_397 : Cond.instanceMethod ⟨"StageMachine$Stage", "addDrum", "(I)I"⟩ ∈ gtb := gtb_mem (i := 453) (by decide +kernel) (by decide +kernel)
theorem wd_398 : Cond.selects "StageMachine$Stage" ⟨"StageMachine$Stage", "addDrum", "(I)I"⟩ ⟨"StageMachine$Stage", "addDrum", "(I)I"⟩ ∈ gtb := gtb_mem (i := 454) (by decide +kernel) (by decide +kernel)
set_option maxRecDepth 30000 in
theorem wd_399 : Cond.code ⟨"StageMachine$Stage", "addDrum", "(I)I"⟩ prog_7_method_6_code 2 (some .int) ∈ gtb := gtb_mem (i := 455) rfl (by decide +kernel)
theorem wd_400 : Cond.instantiable "StageMachine$Drum" 2 ∈ gtb := gtb_mem (i := 456) (by decide +kernel) (by decide +kernel)
theorem wd_401 : Cond.methodLink "StageMachine$Stage" 71 ⟨"StageMachine$Drum", "<init>", "(II)V"⟩ ∈ gtb := gtb_mem (i := 457) (by decide +kernel) (by decide +kernel)
theorem wd_402 : Cond.instanceMethod ⟨"StageMachine$Drum", "<init>", "(II)V"⟩ ∈ gtb := gtb_mem (i := 458) (by decide +kernel) (by decide +kernel)
set_option maxRecDepth 30000 in
theorem wd_403 : Cond.code ⟨"StageMachine$Drum", "<init>", "(II)V"⟩ prog_4_method_1_code 3 none ∈ gtb := gtb_mem (i := 459) rfl (by decide +kernel)
theorem wd_404 : Cond.methodLink "StageMachine$Drum" 1 ⟨"java/lang/Object", "<init>", "()V"⟩ ∈ gtb := gtb_mem (i := 460) (by decide +kernel) (by decide +kernel)
theorem wd_405 : Cond.fieldLink "StageMachine$Drum" 7 "StageMachine$Drum" "number" "I" ∈ gtb := gtb_mem (i := 461) (by decide +kernel) (by decide +kernel)
theorem wd_406 : Cond.fieldLink "StageMachine$Rope" 39 "StageMachine$Drum" "number" "I" ∈ gtb := gtb_mem (i := 462) (by decide +kernel) (by decide +kernel)
theorem wd_407 : Cond.fieldLink "StageMachine$Change" 137 "StageMachine$Drum" "number" "I" ∈ gtb := gtb_mem (i := 463) (by decide +kernel) (by decide +kernel)
theorem wd_408 : Cond.fieldLink "StageMachine$Drum" 13 "StageMachine$Drum" "size" "I" ∈ gtb := gtb_mem (i := 464) (by decide +kernel) (by decide +kernel)
theorem wd_409 : Cond.fieldLink "StageMachine$Change" 103 "StageMachine$Drum" "size" "I" ∈ gtb := gtb_mem (i := 465) (by decide +kernel) (by decide +kernel)
theorem wd_410 : Cond.fieldLink "StageMachine$Rope" 60 "StageMachine$Drum" "size" "I" ∈ gtb := gtb_mem (i := 466) (by decide +kernel) (by decide +kernel)
theorem wd_416 : Cond.methodLink "StageMachineLaw" 32 ⟨"StageMachine", "rope", "(III)I"⟩ ∈ gtb := gtb_mem (i := 472) (by decide +kernel) (by decide +kernel)
theorem wd_417 : Cond.instanceMethod ⟨"StageMachine", "rope", "(III)I"⟩ ∈ gtb := gtb_mem (i := 473) (by decide +kernel) (by decide +kernel)
theorem wd_418 : Cond.selects "StageMachine" ⟨"StageMachine", "rope", "(III)I"⟩ ⟨"StageMachine", "rope", "(III)I"⟩ ∈ gtb := gtb_mem (i := 474) (by decide +kernel) (by decide +kernel)
set_option maxRecDepth 30000 in
theorem wd_419 : Cond.code ⟨"StageMachine", "rope", "(III)I"⟩ prog_1_method_6_code 5 (some .int) ∈ gtb := gtb_mem (i := 475) rfl (by decide +kernel)
theorem wd_420 : Cond.methodLink "StageMachine" 77 ⟨"StageMachine$Stage", "addRope", "(III)I"⟩ ∈ gtb := gtb_mem (i := 476) (by decide +kernel) (by decide +kernel)
theorem wd_421 : Cond.instanceMethod ⟨"StageMachine$Stage", "addRope", "(III)I"⟩ ∈ gtb := gtb_mem (i := 477) (by decide +kernel) (by decide +kernel)
theorem wd_422 : Cond.selects "StageMachine$Stage" ⟨"StageMachine$Stage", "addRope", "(III)I"⟩ ⟨"StageMachine$Stage", "addRope", "(III)I"⟩ ∈ gtb := gtb_mem (i := 478) (by decide +kernel) (by decide +kernel)
set_option maxRecDepth 30000 in
theorem wd_423 : Cond.code ⟨"StageMachine$Stage", "addRope", "(III)I"⟩ prog_7_method_7_code 8 (some .int) ∈ gtb := gtb_mem (i := 479) rfl (by decide +kernel)
theorem wd_424 : Cond.methodLink "StageMachine$Stage" 74 ⟨"StageMachine$Stage", "thingNumbered", "(I)LStageMachine$Thing;"⟩ ∈ gtb := gtb_mem (i := 480) (by decide +kernel) (by decide +kernel)
theorem wd_425 : Cond.instantiable "StageMachine$Rope" 12 ∈ gtb := gtb_mem (i := 481) (by decide +kernel) (by decide +kernel)
theorem wd_426 : Cond.methodLink "StageMachine$Stage" 78 ⟨"StageMachine$Rope", "<init>", "(ILStageMachine$Thing;III)V"⟩ ∈ gtb := gtb_mem (i := 482) (by decide +kernel) (by decide +kernel)
theorem wd_427 : Cond.instanceMethod ⟨"StageMachine$Rope", "<init>", "(ILStageMachine$Thing;III)V"⟩ ∈ gtb := gtb_mem (i := 483) (by decide +kernel) (by decide +kernel)
set_option maxRecDepth 30000 in
theorem wd_428 : Cond.code ⟨"StageMachine$Rope", "<init>", "(ILStageMachine$Thing;III)V"⟩ prog_6_method_1_code 6 none ∈ gtb := gtb_mem (i := 484) rfl (by decide +kernel)
theorem wd_429 : Cond.methodLink "StageMachine$Rope" 3 ⟨"java/lang/Object", "<init>", "()V"⟩ ∈ gtb := gtb_mem (i := 485) (by decide +kernel) (by decide +kernel)
theorem wd_430 : Cond.fieldLink "StageMachine$Rope" 9 "StageMachine$Rope" "number" "I" ∈ gtb := gtb_mem (i := 486) (by decide +kernel) (by decide +kernel)
theorem wd_431 : Cond.fieldLink "StageMachine$Thing" 47 "StageMachine$Rope" "number" "I" ∈ gtb := gtb_mem (i := 487) (by decide +kernel) (by decide +kernel)
theorem wd_432 : Cond.fieldLink "StageMachine$Change" 129 "StageMachine$Rope" "number" "I" ∈ gtb := gtb_mem (i := 488) (by decide +kernel) (by decide +kernel)
theorem wd_433 : Cond.fieldLink "StageMachine$Rope" 15 "StageMachine$Rope" "thing" "LStageMachine$Thing;" ∈ gtb := gtb_mem (i := 489) (by decide +kernel) (by decide +kernel)
theorem wd_434 : Cond.fieldLink "StageMachine$Change" 77 "StageMachine$Rope" "thing" "LStageMachine$Thing;" ∈ gtb := gtb_mem (i := 490) (by decide +kernel) (by decide +kernel)
theorem wd_435 : Cond.fieldLink "StageMachine$Stage" 109 "StageMachine$Rope" "thing" "LStageMachine$Thing;" ∈ gtb := gtb_mem (i := 491) (by decide +kernel) (by decide +kernel)
theorem wd_436 : Cond.fieldLink "StageMachine$Rope" 19 "StageMachine$Rope" "way" "I" ∈ gtb := gtb_mem (i := 492) (by decide +kernel) (by decide +kernel)
theorem wd_437 : Cond.fieldLink "StageMachine$Stage" 174 "StageMachine$Rope" "way" "I" ∈ gtb := gtb_mem (i := 493) (by decide +kernel) (by decide +kernel)
theorem wd_438 : Cond.fieldLink "StageMachine$Rope" 22 "StageMachine$Rope" "gear" "I" ∈ gtb := gtb_mem (i := 494) (by decide +kernel) (by decide +kernel)
theorem wd_439 : Cond.fieldLink "StageMachine$Rope" 25 "StageMachine$Rope" "holds" "I" ∈ gtb := gtb_mem (i := 495) (by decide +kernel) (by decide +kernel)
theorem wd_440 : Cond.fieldLink "StageMachine$Rope" 35 "StageMachine$Rope" "drum" "LStageMachine$Drum;" ∈ gtb := gtb_mem (i := 496) (by decide +kernel) (by decide +kernel)
theorem wd_441 : Cond.fieldLink "StageMachine$Change" 133 "StageMachine$Rope" "drum" "LStageMachine$Drum;" ∈ gtb := gtb_mem (i := 497) (by decide +kernel) (by decide +kernel)
theorem wd_442 : Cond.fieldLink "StageMachine$Stage" 125 "StageMachine$Rope" "drum" "LStageMachine$Drum;" ∈ gtb := gtb_mem (i := 498) (by decide +kernel) (by decide +kernel)
theorem wd_443 : Cond.fieldLink "StageMachine$Thing" 50 "StageMachine$Rope" "start" "I" ∈ gtb := gtb_mem (i := 499) (by decide +kernel) (by decide +kernel)
theorem wd_444 : Cond.fieldLink "StageMachine$Rope" 63 "StageMachine$Rope" "start" "I" ∈ gtb := gtb_mem (i := 500) (by decide +kernel) (by decide +kernel)
theorem wd_445 : Cond.fieldLink "StageMachine$Stage" 143 "StageMachine$Rope" "start" "I" ∈ gtb := gtb_mem (i := 501) (by decide +kernel) (by decide +kernel)
theorem wd_446 : Cond.fieldLink "StageMachine$Rope" 42 "StageMachine$Rope" "done" "I" ∈ gtb := gtb_mem (i := 502) (by decide +kernel) (by decide +kernel)
theorem wd_447 : Cond.fieldLink "StageMachine$Change" 130 "StageMachine$Rope" "done" "I" ∈ gtb := gtb_mem (i := 503) (by decide +kernel) (by decide +kernel)
theorem wd_448 : Cond.fieldLink "StageMachine$Stage" 130 "StageMachine$Rope" "done" "I" ∈ gtb := gtb_mem (i := 504) (by decide +kernel) (by decide +kernel)
theorem wd_449 : Cond.fieldLink "StageMachine$Rope" 45 "StageMachine$Rope" "gone" "Z" ∈ gtb := gtb_mem (i := 505) (by decide +kernel) (by decide +kernel)
theorem wd_450 : Cond.fieldLink "StageMachine$Change" 83 "StageMachine$Rope" "gone" "Z" ∈ gtb := gtb_mem (i := 506) (by decide +kernel) (by decide +kernel)
theorem wd_451 : Cond.fieldLink "StageMachine$Stage" 105 "StageMachine$Rope" "gone" "Z" ∈ gtb := gtb_mem (i := 507) (by decide +kernel) (by decide +kernel)
theorem wd_452 : Cond.fieldLink "StageMachine$Stage" 195 "StageMachine$Rope" "keptDrum" "LStageMachine$Drum;" ∈ gtb := gtb_mem (i := 508) (by decide +kernel) (by decide +kernel)
theorem wd_453 : Cond.fieldLink "StageMachine$Stage" 198 "StageMachine$Rope" "keptStart" "I" ∈ gtb := gtb_mem (i := 509) (by decide +kernel) (by decide +kernel)
theorem wd_454 : Cond.fieldLink "StageMachine$Stage" 201 "StageMachine$Rope" "keptDone" "I" ∈ gtb := gtb_mem (i := 510) (by decide +kernel) (by decide +kernel)
theorem wd_480 : Cond.methodLink "StageMachineLaw" 37 ⟨"StageMachine", "ofRope", "(II)I"⟩ ∈ gtb := gtb_mem (i := 536) (by decide +kernel) (by decide +kernel)
theorem wd_481 : Cond.instanceMethod ⟨"StageMachine", "ofRope", "(II)I"⟩ ∈ gtb := gtb_mem (i := 537) (by decide +kernel) (by decide +kernel)
theorem wd_482 : Cond.selects "StageMachine" ⟨"StageMachine", "ofRope", "(II)I"⟩ ⟨"StageMachine", "ofRope", "(II)I"⟩ ∈ gtb := gtb_mem (i := 538) (by decide +kernel) (by decide +kernel)
set_option maxRecDepth 30000 in
theorem wd_483 : Cond.code ⟨"StageMachine", "ofRope", "(II)I"⟩ prog_1_method_7_code 4 (some .int) ∈ gtb := gtb_mem (i := 539) rfl (by decide +kernel)
theorem wd_484 : Cond.methodLink "StageMachine" 81 ⟨"StageMachine$Stage", "ropeNumbered", "(I)LStageMachine$Rope;"⟩ ∈ gtb := gtb_mem (i := 540) (by decide +kernel) (by decide +kernel)
theorem wd_485 : Cond.instanceMethod ⟨"StageMachine$Stage", "ropeNumbered", "(I)LStageMachine$Rope;"⟩ ∈ gtb := gtb_mem (i := 541) (by decide +kernel) (by decide +kernel)
theorem wd_486 : Cond.selects "StageMachine$Stage" ⟨"StageMachine$Stage", "ropeNumbered", "(I)LStageMachine$Rope;"⟩ ⟨"StageMachine$Stage", "ropeNumbered", "(I)LStageMachine$Rope;"⟩ ∈ gtb := gtb_mem (i := 542) (by decide +kernel) (by decide +kernel)
set_option maxRecDepth 30000 in
theorem wd_487 : Cond.code ⟨"StageMachine$Stage", "ropeNumbered", "(I)LStageMachine$Rope;"⟩ prog_7_method_4_code 2 (Option.some (FieldType.object "StageMachine$Rope")) ∈ gtb := gtb_mem (i := 543) rfl (by decide +kernel)
theorem wd_488 : Cond.constant "StageMachine" 85 (-2000000000) ∈ gtb := gtb_mem (i := 544) (by decide +kernel) (by decide +kernel)
theorem wd_489 : Cond.methodLink "StageMachine" 86 ⟨"StageMachine$Rope", "tell", "(I)I"⟩ ∈ gtb := gtb_mem (i := 545) (by decide +kernel) (by decide +kernel)
theorem wd_490 : Cond.instanceMethod ⟨"StageMachine$Rope", "tell", "(I)I"⟩ ∈ gtb := gtb_mem (i := 546) (by decide +kernel) (by decide +kernel)
theorem wd_491 : Cond.selects "StageMachine$Rope" ⟨"StageMachine$Rope", "tell", "(I)I"⟩ ⟨"StageMachine$Rope", "tell", "(I)I"⟩ ∈ gtb := gtb_mem (i := 547) (by decide +kernel) (by decide +kernel)
set_option maxRecDepth 30000 in
theorem wd_492 : Cond.code ⟨"StageMachine$Rope", "tell", "(I)I"⟩ prog_6_method_2_code 2 (some .int) ∈ gtb := gtb_mem (i := 548) rfl (by decide +kernel)
theorem wd_493 : Cond.methodLink "StageMachine$Rope" 31 ⟨"StageMachine$Rope", "load", "()I"⟩ ∈ gtb := gtb_mem (i := 549) (by decide +kernel) (by decide +kernel)
theorem wd_494 : Cond.instanceMethod ⟨"StageMachine$Rope", "load", "()I"⟩ ∈ gtb := gtb_mem (i := 550) (by decide +kernel) (by decide +kernel)
theorem wd_495 : Cond.selects "StageMachine$Rope" ⟨"StageMachine$Rope", "load", "()I"⟩ ⟨"StageMachine$Rope", "load", "()I"⟩ ∈ gtb := gtb_mem (i := 551) (by decide +kernel) (by decide +kernel)
set_option maxRecDepth 30000 in
theorem wd_496 : Cond.code ⟨"StageMachine$Rope", "load", "()I"⟩ prog_6_method_3_code 1 (some .int) ∈ gtb := gtb_mem (i := 552) rfl (by decide +kernel)
theorem wd_498 : Cond.static ⟨"StageMachine", "quotientUp", "(II)I"⟩ ∈ gtb := gtb_mem (i := 554) (by decide +kernel) (by decide +kernel)
set_option maxRecDepth 30000 in
theorem wd_499 : Cond.code ⟨"StageMachine", "quotientUp", "(II)I"⟩ prog_1_method_40_code 2 (some .int) ∈ gtb := gtb_mem (i := 555) rfl (by decide +kernel)
theorem wd_500 : Cond.constant "StageMachine$Rope" 49 (-2000000000) ∈ gtb := gtb_mem (i := 556) (by decide +kernel) (by decide +kernel)
theorem wd_501 : Cond.methodLink "StageMachineLaw" 41 ⟨"StageMachine", "tie", "(II)I"⟩ ∈ gtb := gtb_mem (i := 557) (by decide +kernel) (by decide +kernel)
theorem wd_502 : Cond.instanceMethod ⟨"StageMachine", "tie", "(II)I"⟩ ∈ gtb := gtb_mem (i := 558) (by decide +kernel) (by decide +kernel)
theorem wd_503 : Cond.selects "StageMachine" ⟨"StageMachine", "tie", "(II)I"⟩ ⟨"StageMachine", "tie", "(II)I"⟩ ∈ gtb := gtb_mem (i := 559) (by decide +kernel) (by decide +kernel)
set_option maxRecDepth 30000 in
theorem wd_504 : Cond.code ⟨"StageMachine", "tie", "(II)I"⟩ prog_1_method_8_code 4 (some .int) ∈ gtb := gtb_mem (i := 560) rfl (by decide +kernel)
theorem wd_505 : Cond.methodLink "StageMachine" 89 ⟨"StageMachine$Stage", "tieRope", "(II)I"⟩ ∈ gtb := gtb_mem (i := 561) (by decide +kernel) (by decide +kernel)
theorem wd_506 : Cond.instanceMethod ⟨"StageMachine$Stage", "tieRope", "(II)I"⟩ ∈ gtb := gtb_mem (i := 562) (by decide +kernel) (by decide +kernel)
theorem wd_507 : Cond.selects "StageMachine$Stage" ⟨"StageMachine$Stage", "tieRope", "(II)I"⟩ ⟨"StageMachine$Stage", "tieRope", "(II)I"⟩ ∈ gtb := gtb_mem (i := 563) (by decide +kernel) (by decide +kernel)
set_option maxRecDepth 30000 in
theorem wd_508 : Cond.code ⟨"StageMachine$Stage", "tieRope", "(II)I"⟩ prog_7_method_10_code 5 (some .int) ∈ gtb := gtb_mem (i := 564) rfl (by decide +kernel)
theorem wd_509 : Cond.methodLink "StageMachine$Stage" 97 ⟨"StageMachine$Stage", "ropeNumbered", "(I)LStageMachine$Rope;"⟩ ∈ gtb := gtb_mem (i := 565) (by decide +kernel) (by decide +kernel)
theorem wd_510 : Cond.methodLink "StageMachine$Stage" 101 ⟨"StageMachine$Stage", "drumNumbered", "(I)LStageMachine$Drum;"⟩ ∈ gtb := gtb_mem (i := 566) (by decide +kernel) (by decide +kernel)
theorem wd_511 : Cond.instanceMethod ⟨"StageMachine$Stage", "drumNumbered", "(I)LStageMachine$Drum;"⟩ ∈ gtb := gtb_mem (i := 567) (by decide +kernel) (by decide +kernel)
theorem wd_512 : Cond.selects "StageMachine$Stage" ⟨"StageMachine$Stage", "drumNumbered", "(I)LStageMachine$Drum;"⟩ ⟨"StageMachine$Stage", "drumNumbered", "(I)LStageMachine$Drum;"⟩ ∈ gtb := gtb_mem (i := 568) (by decide +kernel) (by decide +kernel)
set_option maxRecDepth 30000 in
theorem wd_513 : Cond.code ⟨"StageMachine$Stage", "drumNumbered", "(I)LStageMachine$Drum;"⟩ prog_7_method_3_code 2 (Option.some (FieldType.object "StageMachine$Drum")) ∈ gtb := gtb_mem (i := 569) rfl (by decide +kernel)
theorem wd_514 : Cond.methodLink "StageMachine$Stage" 117 ⟨"StageMachine$Rope", "spare", "()I"⟩ ∈ gtb := gtb_mem (i := 570) (by decide +kernel) (by decide +kernel)
theorem wd_515 : Cond.instanceMethod ⟨"StageMachine$Rope", "spare", "()I"⟩ ∈ gtb := gtb_mem (i := 571) (by decide +kernel) (by decide +kernel)
theorem wd_516 : Cond.selects "StageMachine$Rope" ⟨"StageMachine$Rope", "spare", "()I"⟩ ⟨"StageMachine$Rope", "spare", "()I"⟩ ∈ gtb := gtb_mem (i := 572) (by decide +kernel) (by decide +kernel)
set_option maxRecDepth 30000 in
theorem wd_517 : Cond.code ⟨"StageMachine$Rope", "spare", "()I"⟩ prog_6_method_4_code 1 (some .int) ∈ gtb := gtb_mem (i := 573) rfl (by decide +kernel)
theorem wd_518 : Cond.methodLink "StageMachine$Stage" 121 ⟨"StageMachine$Rope", "bind", "(LStageMachine$Drum;)V"⟩ ∈ gtb := gtb_mem (i := 574) (by decide +kernel) (by decide +kernel)
theorem wd_519 : Cond.instanceMethod ⟨"StageMachine$Rope", "bind", "(LStageMachine$Drum;)V"⟩ ∈ gtb := gtb_mem (i := 575) (by decide +kernel) (by decide +kernel)
theorem wd_520 : Cond.selects "StageMachine$Rope" ⟨"StageMachine$Rope", "bind", "(LStageMachine$Drum;)V"⟩ ⟨"StageMachine$Rope", "bind", "(LStageMachine$Drum;)V"⟩ ∈ gtb := gtb_mem (i := 576) (by decide +kernel) (by decide +kernel)
set_option maxRecDepth 30000 in
theorem wd_521 : Cond.code ⟨"StageMachine$Rope", "bind", "(LStageMachine$Drum;)V"⟩ prog_6_method_10_code 2 none ∈ gtb := gtb_mem (i := 577) rfl (by decide +kernel)
theorem wd_522 : Cond.methodLink "StageMachineLaw" 45 ⟨"StageMachine", "untie", "(I)I"⟩ ∈ gtb := gtb_mem (i := 578) (by decide +kernel) (by decide +kernel)
theorem wd_523 : Cond.instanceMethod ⟨"StageMachine", "untie", "(I)I"⟩ ∈ gtb := gtb_mem (i := 579) (by decide +kernel) (by decide +kernel)
theorem wd_524 : Cond.selects "StageMachine" ⟨"StageMachine", "untie", "(I)I"⟩ ⟨"StageMachine", "untie", "(I)I"⟩ ∈ gtb := gtb_mem (i := 580) (by decide +kernel) (by decide +kernel)
set_option maxRecDepth 30000 in
theorem wd_525 : Cond.code ⟨"StageMachine", "untie", "(I)I"⟩ prog_1_method_9_code 3 (some .int) ∈ gtb := gtb_mem (i := 581) rfl (by decide +kernel)
theorem wd_526 : Cond.methodLink "StageMachine" 93 ⟨"StageMachine$Stage", "untieRope", "(I)I"⟩ ∈ gtb := gtb_mem (i := 582) (by decide +kernel) (by decide +kernel)
theorem wd_527 : Cond.instanceMethod ⟨"StageMachine$Stage", "untieRope", "(I)I"⟩ ∈ gtb := gtb_mem (i := 583) (by decide +kernel) (by decide +kernel)
theorem wd_528 : Cond.selects "StageMachine$Stage" ⟨"StageMachine$Stage", "untieRope", "(I)I"⟩ ⟨"StageMachine$Stage", "untieRope", "(I)I"⟩ ∈ gtb := gtb_mem (i := 584) (by decide +kernel) (by decide +kernel)
set_option maxRecDepth 30000 in
theorem wd_529 : Cond.code ⟨"StageMachine$Stage", "untieRope", "(I)I"⟩ prog_7_method_11_code 4 (some .int) ∈ gtb := gtb_mem (i := 585) rfl (by decide +kernel)
theorem wd_530 : Cond.constant "StageMachine$Stage" 129 (-2000000000) ∈ gtb := gtb_mem (i := 586) (by decide +kernel) (by decide +kernel)
theorem wd_531 : Cond.methodLink "StageMachine$Stage" 133 ⟨"StageMachine$Rope", "loosen", "()V"⟩ ∈ gtb := gtb_mem (i := 587) (by decide +kernel) (by decide +kernel)
theorem wd_532 : Cond.instanceMethod ⟨"StageMachine$Rope", "loosen", "()V"⟩ ∈ gtb := gtb_mem (i := 588) (by decide +kernel) (by decide +kernel)
theorem wd_533 : Cond.selects "StageMachine$Rope" ⟨"StageMachine$Rope", "loosen", "()V"⟩ ⟨"StageMachine$Rope", "loosen", "()V"⟩ ∈ gtb := gtb_mem (i := 589) (by decide +kernel) (by decide +kernel)
set_option maxRecDepth 30000 in
theorem wd_534 : Cond.code ⟨"StageMachine$Rope", "loosen", "()V"⟩ prog_6_method_11_code 1 none ∈ gtb := gtb_mem (i := 590) rfl (by decide +kernel)
theorem wd_535 : Cond.methodLink "StageMachineLaw" 49 ⟨"StageMachine", "weight", "(II)I"⟩ ∈ gtb := gtb_mem (i := 591) (by decide +kernel) (by decide +kernel)
theorem wd_536 : Cond.instanceMethod ⟨"StageMachine", "weight", "(II)I"⟩ ∈ gtb := gtb_mem (i := 592) (by decide +kernel) (by decide +kernel)
theorem wd_537 : Cond.selects "StageMachine" ⟨"StageMachine", "weight", "(II)I"⟩ ⟨"StageMachine", "weight", "(II)I"⟩ ∈ gtb := gtb_mem (i := 593) (by decide +kernel) (by decide +kernel)
set_option maxRecDepth 30000 in
theorem wd_538 : Cond.code ⟨"StageMachine", "weight", "(II)I"⟩ prog_1_method_10_code 4 (some .int) ∈ gtb := gtb_mem (i := 594) rfl (by decide +kernel)
theorem wd_539 : Cond.methodLink "StageMachine" 96 ⟨"StageMachine$Stage", "setWeight", "(II)I"⟩ ∈ gtb := gtb_mem (i := 595) (by decide +kernel) (by decide +kernel)
theorem wd_540 : Cond.instanceMethod ⟨"StageMachine$Stage", "setWeight", "(II)I"⟩ ∈ gtb := gtb_mem (i := 596) (by decide +kernel) (by decide +kernel)
theorem wd_541 : Cond.selects "StageMachine$Stage" ⟨"StageMachine$Stage", "setWeight", "(II)I"⟩ ⟨"StageMachine$Stage", "setWeight", "(II)I"⟩ ∈ gtb := gtb_mem (i := 597) (by decide +kernel) (by decide +kernel)
set_option maxRecDepth 30000 in
theorem wd_542 : Cond.code ⟨"StageMachine$Stage", "setWeight", "(II)I"⟩ prog_7_method_13_code 4 (some .int) ∈ gtb := gtb_mem (i := 598) rfl (by decide +kernel)
theorem wd_543 : Cond.methodLink "StageMachineLaw" 53 ⟨"StageMachine", "bound", "(I)I"⟩ ∈ gtb := gtb_mem (i := 599) (by decide +kernel) (by decide +kernel)
theorem wd_544 : Cond.instanceMethod ⟨"StageMachine", "bound", "(I)I"⟩ ∈ gtb := gtb_mem (i := 600) (by decide +kernel) (by decide +kernel)
theorem wd_545 : Cond.selects "StageMachine" ⟨"StageMachine", "bound", "(I)I"⟩ ⟨"StageMachine", "bound", "(I)I"⟩ ∈ gtb := gtb_mem (i := 601) (by decide +kernel) (by decide +kernel)
set_option maxRecDepth 30000 in
theorem wd_546 : Cond.code ⟨"StageMachine", "bound", "(I)I"⟩ prog_1_method_11_code 2 (some .int) ∈ gtb := gtb_mem (i := 602) rfl (by decide +kernel)
theorem wd_547 : Cond.methodLink "StageMachine" 99 ⟨"StageMachine$Stage", "setBound", "(I)I"⟩ ∈ gtb := gtb_mem (i := 603) (by decide +kernel) (by decide +kernel)
theorem wd_548 : Cond.instanceMethod ⟨"StageMachine$Stage", "setBound", "(I)I"⟩ ∈ gtb := gtb_mem (i := 604) (by decide +kernel) (by decide +kernel)
theorem wd_549 : Cond.selects "StageMachine$Stage" ⟨"StageMachine$Stage", "setBound", "(I)I"⟩ ⟨"StageMachine$Stage", "setBound", "(I)I"⟩ ∈ gtb := gtb_mem (i := 605) (by decide +kernel) (by decide +kernel)
set_option maxRecDepth 30000 in
theorem wd_550 : Cond.code ⟨"StageMachine$Stage", "setBound", "(I)I"⟩ prog_7_method_14_code 3 (some .int) ∈ gtb := gtb_mem (i := 606) rfl (by decide +kernel)
theorem wd_551 : Cond.methodLink "StageMachineLaw" 57 ⟨"StageMachine", "pull", "()I"⟩ ∈ gtb := gtb_mem (i := 607) (by decide +kernel) (by decide +kernel)
theorem wd_552 : Cond.instanceMethod ⟨"StageMachine", "pull", "()I"⟩ ∈ gtb := gtb_mem (i := 608) (by decide +kernel) (by decide +kernel)
theorem wd_553 : Cond.selects "StageMachine" ⟨"StageMachine", "pull", "()I"⟩ ⟨"StageMachine", "pull", "()I"⟩ ∈ gtb := gtb_mem (i := 609) (by decide +kernel) (by decide +kernel)
set_option maxRecDepth 30000 in
theorem wd_554 : Cond.code ⟨"StageMachine", "pull", "()I"⟩ prog_1_method_12_code 1 (some .int) ∈ gtb := gtb_mem (i := 610) rfl (by decide +kernel)
theorem wd_555 : Cond.methodLink "StageMachine" 102 ⟨"StageMachine$Stage", "pullNow", "()I"⟩ ∈ gtb := gtb_mem (i := 611) (by decide +kernel) (by decide +kernel)
theorem wd_556 : Cond.instanceMethod ⟨"StageMachine$Stage", "pullNow", "()I"⟩ ∈ gtb := gtb_mem (i := 612) (by decide +kernel) (by decide +kernel)
theorem wd_557 : Cond.selects "StageMachine$Stage" ⟨"StageMachine$Stage", "pullNow", "()I"⟩ ⟨"StageMachine$Stage", "pullNow", "()I"⟩ ∈ gtb := gtb_mem (i := 613) (by decide +kernel) (by decide +kernel)
set_option maxRecDepth 30000 in
theorem wd_558 : Cond.code ⟨"StageMachine$Stage", "pullNow", "()I"⟩ prog_7_method_15_code 1 (some .int) ∈ gtb := gtb_mem (i := 614) rfl (by decide +kernel)
theorem wd_559 : Cond.methodLink "StageMachine$Stage" 136 ⟨"StageMachine$Stage", "place", "(I)V"⟩ ∈ gtb := gtb_mem (i := 615) (by decide +kernel) (by decide +kernel)
theorem wd_560 : Cond.instanceMethod ⟨"StageMachine$Stage", "place", "(I)V"⟩ ∈ gtb := gtb_mem (i := 616) (by decide +kernel) (by decide +kernel)
theorem wd_561 : Cond.selects "StageMachine$Stage" ⟨"StageMachine$Stage", "place", "(I)V"⟩ ⟨"StageMachine$Stage", "place", "(I)V"⟩ ∈ gtb := gtb_mem (i := 617) (by decide +kernel) (by decide +kernel)
set_option maxRecDepth 30000 in
theorem wd_562 : Cond.code ⟨"StageMachine$Stage", "place", "(I)V"⟩ prog_7_method_16_code 5 none ∈ gtb := gtb_mem (i := 618) rfl (by decide +kernel)
theorem wd_563 : Cond.methodLink "StageMachine$Stage" 146 ⟨"StageMachine$Rope", "doneAfter", "(I)I"⟩ ∈ gtb := gtb_mem (i := 619) (by decide +kernel) (by decide +kernel)
theorem wd_564 : Cond.instanceMethod ⟨"StageMachine$Rope", "doneAfter", "(I)I"⟩ ∈ gtb := gtb_mem (i := 620) (by decide +kernel) (by decide +kernel)
theorem wd_565 : Cond.selects "StageMachine$Rope" ⟨"StageMachine$Rope", "doneAfter", "(I)I"⟩ ⟨"StageMachine$Rope", "doneAfter", "(I)I"⟩ ∈ gtb := gtb_mem (i := 621) (by decide +kernel) (by decide +kernel)
set_option maxRecDepth 30000 in
theorem wd_566 : Cond.code ⟨"StageMachine$Rope", "doneAfter", "(I)I"⟩ prog_6_method_6_code 2 (some .int) ∈ gtb := gtb_mem (i := 622) rfl (by decide +kernel)
theorem wd_567 : Cond.methodLink "StageMachine$Stage" 150 ⟨"StageMachine$Rope", "placeFrom", "(II)I"⟩ ∈ gtb := gtb_mem (i := 623) (by decide +kernel) (by decide +kernel)
theorem wd_568 : Cond.instanceMethod ⟨"StageMachine$Rope", "placeFrom", "(II)I"⟩ ∈ gtb := gtb_mem (i := 624) (by decide +kernel) (by decide +kernel)
theorem wd_569 : Cond.selects "StageMachine$Rope" ⟨"StageMachine$Rope", "placeFrom", "(II)I"⟩ ⟨"StageMachine$Rope", "placeFrom", "(II)I"⟩ ∈ gtb := gtb_mem (i := 625) (by decide +kernel) (by decide +kernel)
set_option maxRecDepth 30000 in
theorem wd_570 : Cond.code ⟨"StageMachine$Rope", "placeFrom", "(II)I"⟩ prog_6_method_5_code 3 (some .int) ∈ gtb := gtb_mem (i := 626) rfl (by decide +kernel)
theorem wd_572 : Cond.static ⟨"StageMachine", "quotient", "(II)I"⟩ ∈ gtb := gtb_mem (i := 628) (by decide +kernel) (by decide +kernel)
set_option maxRecDepth 30000 in
theorem wd_573 : Cond.code ⟨"StageMachine", "quotient", "(II)I"⟩ prog_1_method_39_code 2 (some .int) ∈ gtb := gtb_mem (i := 629) rfl (by decide +kernel)
theorem wd_574 : Cond.methodLink "StageMachine$Stage" 140 ⟨"StageMachine$Stage", "trialPull", "()I"⟩ ∈ gtb := gtb_mem (i := 630) (by decide +kernel) (by decide +kernel)
theorem wd_575 : Cond.instanceMethod ⟨"StageMachine$Stage", "trialPull", "()I"⟩ ∈ gtb := gtb_mem (i := 631) (by decide +kernel) (by decide +kernel)
theorem wd_576 : Cond.selects "StageMachine$Stage" ⟨"StageMachine$Stage", "trialPull", "()I"⟩ ⟨"StageMachine$Stage", "trialPull", "()I"⟩ ∈ gtb := gtb_mem (i := 632) (by decide +kernel) (by decide +kernel)
set_option maxRecDepth 30000 in
theorem wd_577 : Cond.code ⟨"StageMachine$Stage", "trialPull", "()I"⟩ prog_7_method_17_code 3 (some .int) ∈ gtb := gtb_mem (i := 633) rfl (by decide +kernel)
theorem wd_578 : Cond.methodLink "StageMachine$Stage" 157 ⟨"StageMachine$Rope", "pullAt", "(I)I"⟩ ∈ gtb := gtb_mem (i := 634) (by decide +kernel) (by decide +kernel)
theorem wd_579 : Cond.instanceMethod ⟨"StageMachine$Rope", "pullAt", "(I)I"⟩ ∈ gtb := gtb_mem (i := 635) (by decide +kernel) (by decide +kernel)
theorem wd_580 : Cond.selects "StageMachine$Rope" ⟨"StageMachine$Rope", "pullAt", "(I)I"⟩ ⟨"StageMachine$Rope", "pullAt", "(I)I"⟩ ∈ gtb := gtb_mem (i := 636) (by decide +kernel) (by decide +kernel)
set_option maxRecDepth 30000 in
theorem wd_581 : Cond.code ⟨"StageMachine$Rope", "pullAt", "(I)I"⟩ prog_6_method_7_code 2 (some .int) ∈ gtb := gtb_mem (i := 637) rfl (by decide +kernel)
theorem wd_582 : Cond.methodLink "StageMachineLaw" 62 ⟨"StageMachine", "turn", "(I)I"⟩ ∈ gtb := gtb_mem (i := 638) (by decide +kernel) (by decide +kernel)
theorem wd_583 : Cond.instanceMethod ⟨"StageMachine", "turn", "(I)I"⟩ ∈ gtb := gtb_mem (i := 639) (by decide +kernel) (by decide +kernel)
theorem wd_584 : Cond.selects "StageMachine" ⟨"StageMachine", "turn", "(I)I"⟩ ⟨"StageMachine", "turn", "(I)I"⟩ ∈ gtb := gtb_mem (i := 640) (by decide +kernel) (by decide +kernel)
set_option maxRecDepth 30000 in
theorem wd_585 : Cond.code ⟨"StageMachine", "turn", "(I)I"⟩ prog_1_method_13_code 3 (some .int) ∈ gtb := gtb_mem (i := 641) rfl (by decide +kernel)
theorem wd_586 : Cond.methodLink "StageMachine" 106 ⟨"StageMachine", "isTurn", "(I)Z"⟩ ∈ gtb := gtb_mem (i := 642) (by decide +kernel) (by decide +kernel)
theorem wd_587 : Cond.static ⟨"StageMachine", "isTurn", "(I)Z"⟩ ∈ gtb := gtb_mem (i := 643) (by decide +kernel) (by decide +kernel)
set_option maxRecDepth 30000 in
theorem wd_588 : Cond.code ⟨"StageMachine", "isTurn", "(I)Z"⟩ prog_1_method_37_code 1 (some .boolean) ∈ gtb := gtb_mem (i := 644) rfl (by decide +kernel)
theorem wd_589 : Cond.methodLink "StageMachine" 234 ⟨"StageMachine", "isWithin", "(III)Z"⟩ ∈ gtb := gtb_mem (i := 645) (by decide +kernel) (by decide +kernel)
theorem wd_590 : Cond.methodLink "StageMachine" 110 ⟨"StageMachine$Turning", "turnBy", "(I)I"⟩ ∈ gtb := gtb_mem (i := 646) (by decide +kernel) (by decide +kernel)
theorem wd_591 : Cond.instanceMethod ⟨"StageMachine$Turning", "turnBy", "(I)I"⟩ ∈ gtb := gtb_mem (i := 647) (by decide +kernel) (by decide +kernel)
theorem wd_592 : Cond.selects "StageMachine$Turning" ⟨"StageMachine$Turning", "turnBy", "(I)I"⟩ ⟨"StageMachine$Turning", "turnBy", "(I)I"⟩ ∈ gtb := gtb_mem (i := 648) (by decide +kernel) (by decide +kernel)
set_option maxRecDepth 30000 in
theorem wd_593 : Cond.code ⟨"StageMachine$Turning", "turnBy", "(I)I"⟩ prog_12_method_2_code 3 (some .int) ∈ gtb := gtb_mem (i := 649) rfl (by decide +kernel)
theorem wd_594 : Cond.methodLink "StageMachine$Turning" 25 ⟨"StageMachine$Turning", "lookAhead", "(I)I"⟩ ∈ gtb := gtb_mem (i := 650) (by decide +kernel) (by decide +kernel)
theorem wd_595 : Cond.instanceMethod ⟨"StageMachine$Turning", "lookAhead", "(I)I"⟩ ∈ gtb := gtb_mem (i := 651) (by decide +kernel) (by decide +kernel)
theorem wd_596 : Cond.selects "StageMachine$Turning" ⟨"StageMachine$Turning", "lookAhead", "(I)I"⟩ ⟨"StageMachine$Turning", "lookAhead", "(I)I"⟩ ∈ gtb := gtb_mem (i := 652) (by decide +kernel) (by decide +kernel)
set_option maxRecDepth 30000 in
theorem wd_597 : Cond.code ⟨"StageMachine$Turning", "lookAhead", "(I)I"⟩ prog_12_method_3_code 5 (some .int) ∈ gtb := gtb_mem (i := 653) rfl (by decide +kernel)
theorem wd_598 : Cond.methodLink "StageMachine$Turning" 49 ⟨"java/lang/Math", "abs", "(I)I"⟩ ∈ gtb := gtb_mem (i := 654) (by decide +kernel) (by decide +kernel)
theorem wd_599 : Cond.static ⟨"java/lang/Math", "abs", "(I)I"⟩ ∈ gtb := gtb_mem (i := 655) (by decide +kernel) (by decide +kernel)
set_option maxRecDepth 30000 in
theorem wd_600 : Cond.code ⟨"java/lang/Math", "abs", "(I)I"⟩ prog_16_method_59_code 1 (some .int) ∈ gtb := gtb_mem (i := 656) rfl (by decide +kernel)
theorem wd_601 : Cond.methodLink "StageMachine$Turning" 39 ⟨"StageMachine$Stop", "put", "(III)V"⟩ ∈ gtb := gtb_mem (i := 657) (by decide +kernel) (by decide +kernel)
theorem wd_602 : Cond.instanceMethod ⟨"StageMachine$Stop", "put", "(III)V"⟩ ∈ gtb := gtb_mem (i := 658) (by decide +kernel) (by decide +kernel)
theorem wd_603 : Cond.selects "StageMachine$Stop" ⟨"StageMachine$Stop", "put", "(III)V"⟩ ⟨"StageMachine$Stop", "put", "(III)V"⟩ ∈ gtb := gtb_mem (i := 659) (by decide +kernel) (by decide +kernel)
set_option maxRecDepth 30000 in
theorem wd_604 : Cond.code ⟨"StageMachine$Stop", "put", "(III)V"⟩ prog_9_method_2_code 4 none ∈ gtb := gtb_mem (i := 660) rfl (by decide +kernel)
theorem wd_605 : Cond.methodLink "StageMachine$Turning" 54 ⟨"StageMachine$Stage", "place", "(I)V"⟩ ∈ gtb := gtb_mem (i := 661) (by decide +kernel) (by decide +kernel)
theorem wd_606 : Cond.methodLink "StageMachine$Turning" 57 ⟨"StageMachine$Turning", "isBeyond", "()Z"⟩ ∈ gtb := gtb_mem (i := 662) (by decide +kernel) (by decide +kernel)
theorem wd_608 : Cond.instanceMethod ⟨"StageMachine$Turning", "isBeyond", "()Z"⟩ ∈ gtb := gtb_mem (i := 664) (by decide +kernel) (by decide +kernel)
set_option maxRecDepth 30000 in
theorem wd_609 : Cond.code ⟨"StageMachine$Turning", "isBeyond", "()Z"⟩ prog_12_method_5_code 3 (some .boolean) ∈ gtb := gtb_mem (i := 665) rfl (by decide +kernel)
theorem wd_611 : Cond.methodLink "StageMachine$Turning" 61 ⟨"StageMachine$Turning", "isMeeting", "()Z"⟩ ∈ gtb := gtb_mem (i := 667) (by decide +kernel) (by decide +kernel)
theorem wd_613 : Cond.instanceMethod ⟨"StageMachine$Turning", "isMeeting", "()Z"⟩ ∈ gtb := gtb_mem (i := 669) (by decide +kernel) (by decide +kernel)
set_option maxRecDepth 30000 in
theorem wd_614 : Cond.code ⟨"StageMachine$Turning", "isMeeting", "()Z"⟩ prog_12_method_6_code 3 (some .boolean) ∈ gtb := gtb_mem (i := 670) rfl (by decide +kernel)
theorem wd_615 : Cond.methodLink "StageMachine$Turning" 116 ⟨"StageMachine$Thing", "wouldMeet", "(LStageMachine$Thing;)Z"⟩ ∈ gtb := gtb_mem (i := 671) (by decide +kernel) (by decide +kernel)
theorem wd_616 : Cond.instanceMethod ⟨"StageMachine$Thing", "wouldMeet", "(LStageMachine$Thing;)Z"⟩ ∈ gtb := gtb_mem (i := 672) (by decide +kernel) (by decide +kernel)
theorem wd_617 : Cond.selects "StageMachine$Thing" ⟨"StageMachine$Thing", "wouldMeet", "(LStageMachine$Thing;)Z"⟩ ⟨"StageMachine$Thing", "wouldMeet", "(LStageMachine$Thing;)Z"⟩ ∈ gtb := gtb_mem (i := 673) (by decide +kernel) (by decide +kernel)
set_option maxRecDepth 30000 in
theorem wd_618 : Cond.code ⟨"StageMachine$Thing", "wouldMeet", "(LStageMachine$Thing;)Z"⟩ prog_11_method_5_code 2 (some .boolean) ∈ gtb := gtb_mem (i := 674) rfl (by decide +kernel)
theorem wd_620 : Cond.methodLink "StageMachine$Turning" 64 ⟨"StageMachine$Stage", "trialPull", "()I"⟩ ∈ gtb := gtb_mem (i := 676) (by decide +kernel) (by decide +kernel)
theorem wd_621 : Cond.methodLink "StageMachine$Turning" 68 ⟨"StageMachine$Turning", "isUneven", "(I)Z"⟩ ∈ gtb := gtb_mem (i := 677) (by decide +kernel) (by decide +kernel)
theorem wd_623 : Cond.instanceMethod ⟨"StageMachine$Turning", "isUneven", "(I)Z"⟩ ∈ gtb := gtb_mem (i := 679) (by decide +kernel) (by decide +kernel)
set_option maxRecDepth 30000 in
theorem wd_624 : Cond.code ⟨"StageMachine$Turning", "isUneven", "(I)Z"⟩ prog_12_method_7_code 2 (some .boolean) ∈ gtb := gtb_mem (i := 680) rfl (by decide +kernel)
theorem wd_625 : Cond.methodLink "StageMachine$Turning" 72 ⟨"StageMachine$Turning", "stepsToNextMove", "(II)I"⟩ ∈ gtb := gtb_mem (i := 681) (by decide +kernel) (by decide +kernel)
theorem wd_627 : Cond.instanceMethod ⟨"StageMachine$Turning", "stepsToNextMove", "(II)I"⟩ ∈ gtb := gtb_mem (i := 683) (by decide +kernel) (by decide +kernel)
set_option maxRecDepth 30000 in
theorem wd_628 : Cond.code ⟨"StageMachine$Turning", "stepsToNextMove", "(II)I"⟩ prog_12_method_4_code 5 (some .int) ∈ gtb := gtb_mem (i := 684) rfl (by decide +kernel)
theorem wd_629 : Cond.methodLink "StageMachine$Turning" 86 ⟨"StageMachine$Rope", "stepsToNextPlace", "(II)I"⟩ ∈ gtb := gtb_mem (i := 685) (by decide +kernel) (by decide +kernel)
theorem wd_630 : Cond.instanceMethod ⟨"StageMachine$Rope", "stepsToNextPlace", "(II)I"⟩ ∈ gtb := gtb_mem (i := 686) (by decide +kernel) (by decide +kernel)
theorem wd_631 : Cond.selects "StageMachine$Rope" ⟨"StageMachine$Rope", "stepsToNextPlace", "(II)I"⟩ ⟨"StageMachine$Rope", "stepsToNextPlace", "(II)I"⟩ ∈ gtb := gtb_mem (i := 687) (by decide +kernel) (by decide +kernel)
set_option maxRecDepth 30000 in
theorem wd_632 : Cond.code ⟨"StageMachine$Rope", "stepsToNextPlace", "(II)I"⟩ prog_6_method_8_code 7 (some .int) ∈ gtb := gtb_mem (i := 688) rfl (by decide +kernel)
theorem wd_633 : Cond.methodLink "StageMachine$Turning" 91 ⟨"java/lang/Math", "min", "(II)I"⟩ ∈ gtb := gtb_mem (i := 689) (by decide +kernel) (by decide +kernel)
theorem wd_634 : Cond.static ⟨"java/lang/Math", "min", "(II)I"⟩ ∈ gtb := gtb_mem (i := 690) (by decide +kernel) (by decide +kernel)
set_option maxRecDepth 30000 in
theorem wd_635 : Cond.code ⟨"java/lang/Math", "min", "(II)I"⟩ prog_16_method_69_code 2 (some .int) ∈ gtb := gtb_mem (i := 691) rfl (by decide +kernel)
theorem wd_636 : Cond.methodLink "StageMachine$Turning" 76 ⟨"java/lang/Math", "max", "(II)I"⟩ ∈ gtb := gtb_mem (i := 692) (by decide +kernel) (by decide +kernel)
theorem wd_637 : Cond.static ⟨"java/lang/Math", "max", "(II)I"⟩ ∈ gtb := gtb_mem (i := 693) (by decide +kernel) (by decide +kernel)
set_option maxRecDepth 30000 in
theorem wd_638 : Cond.code ⟨"java/lang/Math", "max", "(II)I"⟩ prog_16_method_65_code 2 (some .int) ∈ gtb := gtb_mem (i := 694) rfl (by decide +kernel)
theorem wd_639 : Cond.methodLink "StageMachine$Turning" 43 ⟨"StageMachine$Stage", "advance", "(I)V"⟩ ∈ gtb := gtb_mem (i := 695) (by decide +kernel) (by decide +kernel)
theorem wd_640 : Cond.instanceMethod ⟨"StageMachine$Stage", "advance", "(I)V"⟩ ∈ gtb := gtb_mem (i := 696) (by decide +kernel) (by decide +kernel)
theorem wd_641 : Cond.selects "StageMachine$Stage" ⟨"StageMachine$Stage", "advance", "(I)V"⟩ ⟨"StageMachine$Stage", "advance", "(I)V"⟩ ∈ gtb := gtb_mem (i := 697) (by decide +kernel) (by decide +kernel)
set_option maxRecDepth 30000 in
theorem wd_642 : Cond.code ⟨"StageMachine$Stage", "advance", "(I)V"⟩ prog_7_method_18_code 3 none ∈ gtb := gtb_mem (i := 698) rfl (by decide +kernel)
theorem wd_643 : Cond.methodLink "StageMachine$Stage" 160 ⟨"StageMachine$Rope", "advance", "(I)V"⟩ ∈ gtb := gtb_mem (i := 699) (by decide +kernel) (by decide +kernel)
theorem wd_644 : Cond.instanceMethod ⟨"StageMachine$Rope", "advance", "(I)V"⟩ ∈ gtb := gtb_mem (i := 700) (by decide +kernel) (by decide +kernel)
theorem wd_645 : Cond.selects "StageMachine$Rope" ⟨"StageMachine$Rope", "advance", "(I)V"⟩ ⟨"StageMachine$Rope", "advance", "(I)V"⟩ ∈ gtb := gtb_mem (i := 701) (by decide +kernel) (by decide +kernel)
set_option maxRecDepth 30000 in
theorem wd_646 : Cond.code ⟨"StageMachine$Rope", "advance", "(I)V"⟩ prog_6_method_9_code 2 none ∈ gtb := gtb_mem (i := 702) rfl (by decide +kernel)
theorem wd_647 : Cond.methodLink "StageMachine$Rope" 66 ⟨"StageMachine$Rope", "doneAfter", "(I)I"⟩ ∈ gtb := gtb_mem (i := 703) (by decide +kernel) (by decide +kernel)
theorem wd_648 : Cond.methodLink "StageMachine$Rope" 70 ⟨"StageMachine$Rope", "placeFrom", "(II)I"⟩ ∈ gtb := gtb_mem (i := 704) (by decide +kernel) (by decide +kernel)
theorem wd_649 : Cond.methodLink "StageMachine$Stage" 169 ⟨"java/lang/Math", "abs", "(I)I"⟩ ∈ gtb := gtb_mem (i := 705) (by decide +kernel) (by decide +kernel)
theorem wd_650 : Cond.methodLink "StageMachineLaw" 66 ⟨"StageMachine", "stopped", "(I)I"⟩ ∈ gtb := gtb_mem (i := 706) (by decide +kernel) (by decide +kernel)
theorem wd_651 : Cond.instanceMethod ⟨"StageMachine", "stopped", "(I)I"⟩ ∈ gtb := gtb_mem (i := 707) (by decide +kernel) (by decide +kernel)
theorem wd_652 : Cond.selects "StageMachine" ⟨"StageMachine", "stopped", "(I)I"⟩ ⟨"StageMachine", "stopped", "(I)I"⟩ ∈ gtb := gtb_mem (i := 708) (by decide +kernel) (by decide +kernel)
set_option maxRecDepth 30000 in
theorem wd_653 : Cond.code ⟨"StageMachine", "stopped", "(I)I"⟩ prog_1_method_14_code 2 (some .int) ∈ gtb := gtb_mem (i := 709) rfl (by decide +kernel)
theorem wd_654 : Cond.methodLink "StageMachine" 117 ⟨"StageMachine$Stop", "tell", "(I)I"⟩ ∈ gtb := gtb_mem (i := 710) (by decide +kernel) (by decide +kernel)
theorem wd_655 : Cond.instanceMethod ⟨"StageMachine$Stop", "tell", "(I)I"⟩ ∈ gtb := gtb_mem (i := 711) (by decide +kernel) (by decide +kernel)
theorem wd_656 : Cond.selects "StageMachine$Stop" ⟨"StageMachine$Stop", "tell", "(I)I"⟩ ⟨"StageMachine$Stop", "tell", "(I)I"⟩ ∈ gtb := gtb_mem (i := 712) (by decide +kernel) (by decide +kernel)
set_option maxRecDepth 30000 in
theorem wd_657 : Cond.code ⟨"StageMachine$Stop", "tell", "(I)I"⟩ prog_9_method_3_code 2 (some .int) ∈ gtb := gtb_mem (i := 713) rfl (by decide +kernel)
theorem wd_658 : Cond.methodLink "StageMachineLaw" 70 ⟨"StageMachine", "free", "(I)I"⟩ ∈ gtb := gtb_mem (i := 714) (by decide +kernel) (by decide +kernel)
theorem wd_659 : Cond.instanceMethod ⟨"StageMachine", "free", "(I)I"⟩ ∈ gtb := gtb_mem (i := 715) (by decide +kernel) (by decide +kernel)
theorem wd_660 : Cond.selects "StageMachine" ⟨"StageMachine", "free", "(I)I"⟩ ⟨"StageMachine", "free", "(I)I"⟩ ∈ gtb := gtb_mem (i := 716) (by decide +kernel) (by decide +kernel)
set_option maxRecDepth 30000 in
theorem wd_661 : Cond.code ⟨"StageMachine", "free", "(I)I"⟩ prog_1_method_15_code 2 (some .int) ∈ gtb := gtb_mem (i := 717) rfl (by decide +kernel)
theorem wd_662 : Cond.methodLink "StageMachine" 120 ⟨"StageMachine$Turning", "lookAhead", "(I)I"⟩ ∈ gtb := gtb_mem (i := 718) (by decide +kernel) (by decide +kernel)
theorem wd_663 : Cond.methodLink "StageMachineLaw" 74 ⟨"StageMachine", "snap", "(I)I"⟩ ∈ gtb := gtb_mem (i := 719) (by decide +kernel) (by decide +kernel)
theorem wd_664 : Cond.instanceMethod ⟨"StageMachine", "snap", "(I)I"⟩ ∈ gtb := gtb_mem (i := 720) (by decide +kernel) (by decide +kernel)
theorem wd_665 : Cond.selects "StageMachine" ⟨"StageMachine", "snap", "(I)I"⟩ ⟨"StageMachine", "snap", "(I)I"⟩ ∈ gtb := gtb_mem (i := 721) (by decide +kernel) (by decide +kernel)
set_option maxRecDepth 30000 in
theorem wd_666 : Cond.code ⟨"StageMachine", "snap", "(I)I"⟩ prog_1_method_16_code 3 (some .int) ∈ gtb := gtb_mem (i := 722) rfl (by decide +kernel)
theorem wd_667 : Cond.methodLink "StageMachine" 123 ⟨"StageMachine$Stage", "breakRope", "(I)I"⟩ ∈ gtb := gtb_mem (i := 723) (by decide +kernel) (by decide +kernel)
theorem wd_668 : Cond.instanceMethod ⟨"StageMachine$Stage", "breakRope", "(I)I"⟩ ∈ gtb := gtb_mem (i := 724) (by decide +kernel) (by decide +kernel)
theorem wd_669 : Cond.selects "StageMachine$Stage" ⟨"StageMachine$Stage", "breakRope", "(I)I"⟩ ⟨"StageMachine$Stage", "breakRope", "(I)I"⟩ ∈ gtb := gtb_mem (i := 725) (by decide +kernel) (by decide +kernel)
set_option maxRecDepth 30000 in
theorem wd_670 : Cond.code ⟨"StageMachine$Stage", "breakRope", "(I)I"⟩ prog_7_method_19_code 4 (some .int) ∈ gtb := gtb_mem (i := 726) rfl (by decide +kernel)
theorem wd_671 : Cond.methodLink "StageMachine$Stage" 177 ⟨"StageMachine$Stage", "fall", "(LStageMachine$Thing;II)I"⟩ ∈ gtb := gtb_mem (i := 727) (by decide +kernel) (by decide +kernel)
theorem wd_673 : Cond.instanceMethod ⟨"StageMachine$Stage", "fall", "(LStageMachine$Thing;II)I"⟩ ∈ gtb := gtb_mem (i := 729) (by decide +kernel) (by decide +kernel)
set_option maxRecDepth 30000 in
theorem wd_674 : Cond.code ⟨"StageMachine$Stage", "fall", "(LStageMachine$Thing;II)I"⟩ prog_7_method_20_code 5 (some .int) ∈ gtb := gtb_mem (i := 730) rfl (by decide +kernel)
theorem wd_675 : Cond.methodLink "StageMachine$Stage" 181 ⟨"StageMachine$Stage", "canFall", "(LStageMachine$Thing;I)Z"⟩ ∈ gtb := gtb_mem (i := 731) (by decide +kernel) (by decide +kernel)
theorem wd_677 : Cond.instanceMethod ⟨"StageMachine$Stage", "canFall", "(LStageMachine$Thing;I)Z"⟩ ∈ gtb := gtb_mem (i := 733) (by decide +kernel) (by decide +kernel)
set_option maxRecDepth 30000 in
theorem wd_678 : Cond.code ⟨"StageMachine$Stage", "canFall", "(LStageMachine$Thing;I)Z"⟩ prog_7_method_21_code 3 (some .boolean) ∈ gtb := gtb_mem (i := 734) rfl (by decide +kernel)
theorem wd_679 : Cond.methodLink "StageMachine$Stage" 185 ⟨"StageMachine$Stage", "isCatch", "(II)Z"⟩ ∈ gtb := gtb_mem (i := 735) (by decide +kernel) (by decide +kernel)
theorem wd_681 : Cond.instanceMethod ⟨"StageMachine$Stage", "isCatch", "(II)Z"⟩ ∈ gtb := gtb_mem (i := 737) (by decide +kernel) (by decide +kernel)
set_option maxRecDepth 30000 in
theorem wd_682 : Cond.code ⟨"StageMachine$Stage", "isCatch", "(II)Z"⟩ prog_7_method_22_code 4 (some .boolean) ∈ gtb := gtb_mem (i := 738) rfl (by decide +kernel)
theorem wd_683 : Cond.methodLink "StageMachineLaw" 78 ⟨"StageMachine", "hold", "(I)I"⟩ ∈ gtb := gtb_mem (i := 739) (by decide +kernel) (by decide +kernel)
theorem wd_684 : Cond.instanceMethod ⟨"StageMachine", "hold", "(I)I"⟩ ∈ gtb := gtb_mem (i := 740) (by decide +kernel) (by decide +kernel)
theorem wd_685 : Cond.selects "StageMachine" ⟨"StageMachine", "hold", "(I)I"⟩ ⟨"StageMachine", "hold", "(I)I"⟩ ∈ gtb := gtb_mem (i := 741) (by decide +kernel) (by decide +kernel)
set_option maxRecDepth 30000 in
theorem wd_686 : Cond.code ⟨"StageMachine", "hold", "(I)I"⟩ prog_1_method_17_code 2 (some .int) ∈ gtb := gtb_mem (i := 742) rfl (by decide +kernel)
theorem wd_687 : Cond.methodLink "StageMachine" 126 ⟨"StageMachine$Stage", "addCatch", "(I)I"⟩ ∈ gtb := gtb_mem (i := 743) (by decide +kernel) (by decide +kernel)
theorem wd_688 : Cond.instanceMethod ⟨"StageMachine$Stage", "addCatch", "(I)I"⟩ ∈ gtb := gtb_mem (i := 744) (by decide +kernel) (by decide +kernel)
theorem wd_689 : Cond.selects "StageMachine$Stage" ⟨"StageMachine$Stage", "addCatch", "(I)I"⟩ ⟨"StageMachine$Stage", "addCatch", "(I)I"⟩ ∈ gtb := gtb_mem (i := 745) (by decide +kernel) (by decide +kernel)
set_option maxRecDepth 30000 in
theorem wd_690 : Cond.code ⟨"StageMachine$Stage", "addCatch", "(I)I"⟩ prog_7_method_23_code 4 (some .int) ∈ gtb := gtb_mem (i := 746) rfl (by decide +kernel)
theorem wd_691 : Cond.methodLink "StageMachineLaw" 82 ⟨"StageMachine", "scene", "(III)I"⟩ ∈ gtb := gtb_mem (i := 747) (by decide +kernel) (by decide +kernel)
theorem wd_692 : Cond.instanceMethod ⟨"StageMachine", "scene", "(III)I"⟩ ∈ gtb := gtb_mem (i := 748) (by decide +kernel) (by decide +kernel)
theorem wd_693 : Cond.selects "StageMachine" ⟨"StageMachine", "scene", "(III)I"⟩ ⟨"StageMachine", "scene", "(III)I"⟩ ∈ gtb := gtb_mem (i := 749) (by decide +kernel) (by decide +kernel)
set_option maxRecDepth 30000 in
theorem wd_694 : Cond.code ⟨"StageMachine", "scene", "(III)I"⟩ prog_1_method_18_code 5 (some .int) ∈ gtb := gtb_mem (i := 750) rfl (by decide +kernel)
theorem wd_695 : Cond.methodLink "StageMachine" 129 ⟨"StageMachine$Thing", "tellScene", "(II)I"⟩ ∈ gtb := gtb_mem (i := 751) (by decide +kernel) (by decide +kernel)
theorem wd_696 : Cond.instanceMethod ⟨"StageMachine$Thing", "tellScene", "(II)I"⟩ ∈ gtb := gtb_mem (i := 752) (by decide +kernel) (by decide +kernel)
theorem wd_697 : Cond.selects "StageMachine$Thing" ⟨"StageMachine$Thing", "tellScene", "(II)I"⟩ ⟨"StageMachine$Thing", "tellScene", "(II)I"⟩ ∈ gtb := gtb_mem (i := 753) (by decide +kernel) (by decide +kernel)
set_option maxRecDepth 30000 in
theorem wd_698 : Cond.code ⟨"StageMachine$Thing", "tellScene", "(II)I"⟩ prog_11_method_3_code 5 (some .int) ∈ gtb := gtb_mem (i := 754) rfl (by decide +kernel)
theorem wd_700 : Cond.methodLink "StageMachineLaw" 86 ⟨"StageMachine", "change", "(II)I"⟩ ∈ gtb := gtb_mem (i := 756) (by decide +kernel) (by decide +kernel)
theorem wd_701 : Cond.instanceMethod ⟨"StageMachine", "change", "(II)I"⟩ ∈ gtb := gtb_mem (i := 757) (by decide +kernel) (by decide +kernel)
theorem wd_702 : Cond.selects "StageMachine" ⟨"StageMachine", "change", "(II)I"⟩ ⟨"StageMachine", "change", "(II)I"⟩ ∈ gtb := gtb_mem (i := 758) (by decide +kernel) (by decide +kernel)
set_option maxRecDepth 30000 in
theorem wd_703 : Cond.code ⟨"StageMachine", "change", "(II)I"⟩ prog_1_method_19_code 3 (some .int) ∈ gtb := gtb_mem (i := 759) rfl (by decide +kernel)
theorem wd_704 : Cond.methodLink "StageMachine" 132 ⟨"StageMachine$Change", "plan", "(II)I"⟩ ∈ gtb := gtb_mem (i := 760) (by decide +kernel) (by decide +kernel)
theorem wd_705 : Cond.instanceMethod ⟨"StageMachine$Change", "plan", "(II)I"⟩ ∈ gtb := gtb_mem (i := 761) (by decide +kernel) (by decide +kernel)
theorem wd_706 : Cond.selects "StageMachine$Change" ⟨"StageMachine$Change", "plan", "(II)I"⟩ ⟨"StageMachine$Change", "plan", "(II)I"⟩ ∈ gtb := gtb_mem (i := 762) (by decide +kernel) (by decide +kernel)
set_option maxRecDepth 30000 in
theorem wd_707 : Cond.code ⟨"StageMachine$Change", "plan", "(II)I"⟩ prog_3_method_2_code 7 (some .int) ∈ gtb := gtb_mem (i := 763) rfl (by decide +kernel)
theorem wd_710 : Cond.methodLink "StageMachine$Change" 40 ⟨"java/util/Arrays", "fill", "([II)V"⟩ ∈ gtb := gtb_mem (i := 766) (by decide +kernel) (by decide +kernel)
theorem wd_711 : Cond.methodLink "StageMachine$Change" 64 ⟨"StageMachine$Change", "findTie", "(LStageMachine$Thing;II)Z"⟩ ∈ gtb := gtb_mem (i := 767) (by decide +kernel) (by decide +kernel)
theorem wd_713 : Cond.instanceMethod ⟨"StageMachine$Change", "findTie", "(LStageMachine$Thing;II)Z"⟩ ∈ gtb := gtb_mem (i := 769) (by decide +kernel) (by decide +kernel)
set_option maxRecDepth 30000 in
theorem wd_714 : Cond.code ⟨"StageMachine$Change", "findTie", "(LStageMachine$Thing;II)Z"⟩ prog_3_method_3_code 8 (some .boolean) ∈ gtb := gtb_mem (i := 770) rfl (by decide +kernel)
theorem wd_715 : Cond.methodLink "StageMachine$Change" 86 ⟨"StageMachine$Rope", "spare", "()I"⟩ ∈ gtb := gtb_mem (i := 771) (by decide +kernel) (by decide +kernel)
theorem wd_716 : Cond.methodLink "StageMachine$Change" 90 ⟨"StageMachine$Change", "findDrum", "(LStageMachine$Rope;II)I"⟩ ∈ gtb := gtb_mem (i := 772) (by decide +kernel) (by decide +kernel)
theorem wd_718 : Cond.instanceMethod ⟨"StageMachine$Change", "findDrum", "(LStageMachine$Rope;II)I"⟩ ∈ gtb := gtb_mem (i := 774) (by decide +kernel) (by decide +kernel)
set_option maxRecDepth 30000 in
theorem wd_719 : Cond.code ⟨"StageMachine$Change", "findDrum", "(LStageMachine$Rope;II)I"⟩ prog_3_method_4_code 5 (some .int) ∈ gtb := gtb_mem (i := 775) rfl (by decide +kernel)
theorem wd_720 : Cond.methodLink "StageMachine$Change" 108 ⟨"StageMachine$Rope", "placeFrom", "(II)I"⟩ ∈ gtb := gtb_mem (i := 776) (by decide +kernel) (by decide +kernel)
theorem wd_721 : Cond.methodLink "StageMachine$Change" 68 ⟨"StageMachine$Change", "countWorks", "()V"⟩ ∈ gtb := gtb_mem (i := 777) (by decide +kernel) (by decide +kernel)
theorem wd_723 : Cond.instanceMethod ⟨"StageMachine$Change", "countWorks", "()V"⟩ ∈ gtb := gtb_mem (i := 779) (by decide +kernel) (by decide +kernel)
set_option maxRecDepth 30000 in
theorem wd_724 : Cond.code ⟨"StageMachine$Change", "countWorks", "()V"⟩ prog_3_method_5_code 3 none ∈ gtb := gtb_mem (i := 780) rfl (by decide +kernel)
theorem wd_725 : Cond.methodLink "StageMachine$Change" 125 ⟨"StageMachine$Change", "isReady", "(LStageMachine$Rope;I)Z"⟩ ∈ gtb := gtb_mem (i := 781) (by decide +kernel) (by decide +kernel)
theorem wd_727 : Cond.instanceMethod ⟨"StageMachine$Change", "isReady", "(LStageMachine$Rope;I)Z"⟩ ∈ gtb := gtb_mem (i := 783) (by decide +kernel) (by decide +kernel)
set_option maxRecDepth 30000 in
theorem wd_728 : Cond.code ⟨"StageMachine$Change", "isReady", "(LStageMachine$Rope;I)Z"⟩ prog_3_method_6_code 3 (some .boolean) ∈ gtb := gtb_mem (i := 784) rfl (by decide +kernel)
theorem wd_729 : Cond.methodLink "StageMachineLaw" 90 ⟨"StageMachine", "told", "(II)I"⟩ ∈ gtb := gtb_mem (i := 785) (by decide +kernel) (by decide +kernel)
theorem wd_730 : Cond.instanceMethod ⟨"StageMachine", "told", "(II)I"⟩ ∈ gtb := gtb_mem (i := 786) (by decide +kernel) (by decide +kernel)
theorem wd_731 : Cond.selects "StageMachine" ⟨"StageMachine", "told", "(II)I"⟩ ⟨"StageMachine", "told", "(II)I"⟩ ∈ gtb := gtb_mem (i := 787) (by decide +kernel) (by decide +kernel)
set_option maxRecDepth 30000 in
theorem wd_732 : Cond.code ⟨"StageMachine", "told", "(II)I"⟩ prog_1_method_20_code 3 (some .int) ∈ gtb := gtb_mem (i := 788) rfl (by decide +kernel)
theorem wd_733 : Cond.methodLink "StageMachine" 135 ⟨"StageMachine$Change", "tieOf", "(II)I"⟩ ∈ gtb := gtb_mem (i := 789) (by decide +kernel) (by decide +kernel)
theorem wd_734 : Cond.instanceMethod ⟨"StageMachine$Change", "tieOf", "(II)I"⟩ ∈ gtb := gtb_mem (i := 790) (by decide +kernel) (by decide +kernel)
theorem wd_735 : Cond.selects "StageMachine$Change" ⟨"StageMachine$Change", "tieOf", "(II)I"⟩ ⟨"StageMachine$Change", "tieOf", "(II)I"⟩ ∈ gtb := gtb_mem (i := 791) (by decide +kernel) (by decide +kernel)
set_option maxRecDepth 30000 in
theorem wd_736 : Cond.code ⟨"StageMachine$Change", "tieOf", "(II)I"⟩ prog_3_method_7_code 4 (some .int) ∈ gtb := gtb_mem (i := 792) rfl (by decide +kernel)
theorem wd_737 : Cond.methodLink "StageMachine$Change" 138 ⟨"StageMachine$Stage", "thingNumbered", "(I)LStageMachine$Thing;"⟩ ∈ gtb := gtb_mem (i := 793) (by decide +kernel) (by decide +kernel)
theorem wd_738 : Cond.methodLink "StageMachineLaw" 94 ⟨"StageMachine", "work", "(I)I"⟩ ∈ gtb := gtb_mem (i := 794) (by decide +kernel) (by decide +kernel)
theorem wd_739 : Cond.instanceMethod ⟨"StageMachine", "work", "(I)I"⟩ ∈ gtb := gtb_mem (i := 795) (by decide +kernel) (by decide +kernel)
theorem wd_740 : Cond.selects "StageMachine" ⟨"StageMachine", "work", "(I)I"⟩ ⟨"StageMachine", "work", "(I)I"⟩ ∈ gtb := gtb_mem (i := 796) (by decide +kernel) (by decide +kernel)
set_option maxRecDepth 30000 in
theorem wd_741 : Cond.code ⟨"StageMachine", "work", "(I)I"⟩ prog_1_method_21_code 2 (some .int) ∈ gtb := gtb_mem (i := 797) rfl (by decide +kernel)
theorem wd_742 : Cond.methodLink "StageMachine" 138 ⟨"StageMachine$Change", "workFor", "(I)I"⟩ ∈ gtb := gtb_mem (i := 798) (by decide +kernel) (by decide +kernel)
theorem wd_743 : Cond.instanceMethod ⟨"StageMachine$Change", "workFor", "(I)I"⟩ ∈ gtb := gtb_mem (i := 799) (by decide +kernel) (by decide +kernel)
theorem wd_744 : Cond.selects "StageMachine$Change" ⟨"StageMachine$Change", "workFor", "(I)I"⟩ ⟨"StageMachine$Change", "workFor", "(I)I"⟩ ∈ gtb := gtb_mem (i := 800) (by decide +kernel) (by decide +kernel)
set_option maxRecDepth 30000 in
theorem wd_745 : Cond.code ⟨"StageMachine$Change", "workFor", "(I)I"⟩ prog_3_method_8_code 2 (some .int) ∈ gtb := gtb_mem (i := 801) rfl (by decide +kernel)
theorem wd_746 : Cond.methodLink "StageMachine$Change" 142 ⟨"StageMachine$Change", "works", "()I"⟩ ∈ gtb := gtb_mem (i := 802) (by decide +kernel) (by decide +kernel)
theorem wd_748 : Cond.instanceMethod ⟨"StageMachine$Change", "works", "()I"⟩ ∈ gtb := gtb_mem (i := 804) (by decide +kernel) (by decide +kernel)
set_option maxRecDepth 30000 in
theorem wd_749 : Cond.code ⟨"StageMachine$Change", "works", "()I"⟩ prog_3_method_9_code 1 (some .int) ∈ gtb := gtb_mem (i := 805) rfl (by decide +kernel)
theorem wd_750 : Cond.methodLink "StageMachineLaw" 98 ⟨"StageMachine", "men", "(I)I"⟩ ∈ gtb := gtb_mem (i := 806) (by decide +kernel) (by decide +kernel)
theorem wd_751 : Cond.instanceMethod ⟨"StageMachine", "men", "(I)I"⟩ ∈ gtb := gtb_mem (i := 807) (by decide +kernel) (by decide +kernel)
theorem wd_752 : Cond.selects "StageMachine" ⟨"StageMachine", "men", "(I)I"⟩ ⟨"StageMachine", "men", "(I)I"⟩ ∈ gtb := gtb_mem (i := 808) (by decide +kernel) (by decide +kernel)
set_option maxRecDepth 30000 in
theorem wd_753 : Cond.code ⟨"StageMachine", "men", "(I)I"⟩ prog_1_method_22_code 2 (some .int) ∈ gtb := gtb_mem (i := 809) rfl (by decide +kernel)
theorem wd_754 : Cond.methodLink "StageMachine" 141 ⟨"StageMachine$Change", "leastMen", "(I)I"⟩ ∈ gtb := gtb_mem (i := 810) (by decide +kernel) (by decide +kernel)
theorem wd_755 : Cond.instanceMethod ⟨"StageMachine$Change", "leastMen", "(I)I"⟩ ∈ gtb := gtb_mem (i := 811) (by decide +kernel) (by decide +kernel)
theorem wd_756 : Cond.selects "StageMachine$Change" ⟨"StageMachine$Change", "leastMen", "(I)I"⟩ ⟨"StageMachine$Change", "leastMen", "(I)I"⟩ ∈ gtb := gtb_mem (i := 812) (by decide +kernel) (by decide +kernel)
set_option maxRecDepth 30000 in
theorem wd_757 : Cond.code ⟨"StageMachine$Change", "leastMen", "(I)I"⟩ prog_3_method_10_code 2 (some .int) ∈ gtb := gtb_mem (i := 813) rfl (by decide +kernel)
theorem wd_758 : Cond.methodLink "StageMachine$Change" 145 ⟨"StageMachine$Change", "longestWork", "()I"⟩ ∈ gtb := gtb_mem (i := 814) (by decide +kernel) (by decide +kernel)
theorem wd_760 : Cond.instanceMethod ⟨"StageMachine$Change", "longestWork", "()I"⟩ ∈ gtb := gtb_mem (i := 816) (by decide +kernel) (by decide +kernel)
set_option maxRecDepth 30000 in
theorem wd_761 : Cond.code ⟨"StageMachine$Change", "longestWork", "()I"⟩ prog_3_method_11_code 1 (some .int) ∈ gtb := gtb_mem (i := 817) rfl (by decide +kernel)
theorem wd_762 : Cond.methodLink "StageMachine$Change" 148 ⟨"StageMachine$Change", "shareOut", "(I)I"⟩ ∈ gtb := gtb_mem (i := 818) (by decide +kernel) (by decide +kernel)
theorem wd_764 : Cond.instanceMethod ⟨"StageMachine$Change", "shareOut", "(I)I"⟩ ∈ gtb := gtb_mem (i := 820) (by decide +kernel) (by decide +kernel)
set_option maxRecDepth 30000 in
theorem wd_765 : Cond.code ⟨"StageMachine$Change", "shareOut", "(I)I"⟩ prog_3_method_12_code 6 (some .int) ∈ gtb := gtb_mem (i := 821) rfl (by decide +kernel)
theorem wd_766 : Cond.methodLink "StageMachine$Change" 155 ⟨"StageMachine$Change", "leastShare", "(IIII)I"⟩ ∈ gtb := gtb_mem (i := 822) (by decide +kernel) (by decide +kernel)
theorem wd_768 : Cond.instanceMethod ⟨"StageMachine$Change", "leastShare", "(IIII)I"⟩ ∈ gtb := gtb_mem (i := 824) (by decide +kernel) (by decide +kernel)
set_option maxRecDepth 30000 in
theorem wd_769 : Cond.code ⟨"StageMachine$Change", "leastShare", "(IIII)I"⟩ prog_3_method_13_code 6 (some .int) ∈ gtb := gtb_mem (i := 825) rfl (by decide +kernel)
theorem wd_770 : Cond.methodLink "StageMachine$Change" 159 ⟨"StageMachine$Change", "slot", "(III)I"⟩ ∈ gtb := gtb_mem (i := 826) (by decide +kernel) (by decide +kernel)
theorem wd_772 : Cond.instanceMethod ⟨"StageMachine$Change", "slot", "(III)I"⟩ ∈ gtb := gtb_mem (i := 828) (by decide +kernel) (by decide +kernel)
set_option maxRecDepth 30000 in
theorem wd_773 : Cond.code ⟨"StageMachine$Change", "slot", "(III)I"⟩ prog_3_method_15_code 4 (some .int) ∈ gtb := gtb_mem (i := 829) rfl (by decide +kernel)
theorem wd_774 : Cond.methodLink "StageMachine$Change" 163 ⟨"StageMachine$Change", "withWork", "(III)I"⟩ ∈ gtb := gtb_mem (i := 830) (by decide +kernel) (by decide +kernel)
theorem wd_776 : Cond.instanceMethod ⟨"StageMachine$Change", "withWork", "(III)I"⟩ ∈ gtb := gtb_mem (i := 832) (by decide +kernel) (by decide +kernel)
set_option maxRecDepth 30000 in
theorem wd_777 : Cond.code ⟨"StageMachine$Change", "withWork", "(III)I"⟩ prog_3_method_14_code 5 (some .int) ∈ gtb := gtb_mem (i := 833) rfl (by decide +kernel)
theorem wd_778 : Cond.methodLink "StageMachine$Change" 166 ⟨"java/lang/Math", "min", "(II)I"⟩ ∈ gtb := gtb_mem (i := 834) (by decide +kernel) (by decide +kernel)
theorem wd_780 : Cond.methodLink "StageMachineLaw" 102 ⟨"StageMachine", "feed", "(II)I"⟩ ∈ gtb := gtb_mem (i := 836) (by decide +kernel) (by decide +kernel)
theorem wd_781 : Cond.instanceMethod ⟨"StageMachine", "feed", "(II)I"⟩ ∈ gtb := gtb_mem (i := 837) (by decide +kernel) (by decide +kernel)
theorem wd_782 : Cond.selects "StageMachine" ⟨"StageMachine", "feed", "(II)I"⟩ ⟨"StageMachine", "feed", "(II)I"⟩ ∈ gtb := gtb_mem (i := 838) (by decide +kernel) (by decide +kernel)
set_option maxRecDepth 30000 in
theorem wd_783 : Cond.code ⟨"StageMachine", "feed", "(II)I"⟩ prog_1_method_23_code 3 (some .int) ∈ gtb := gtb_mem (i := 839) rfl (by decide +kernel)
theorem wd_784 : Cond.methodLink "StageMachine" 144 ⟨"StageMachine$Tape", "take", "(II)I"⟩ ∈ gtb := gtb_mem (i := 840) (by decide +kernel) (by decide +kernel)
theorem wd_785 : Cond.instanceMethod ⟨"StageMachine$Tape", "take", "(II)I"⟩ ∈ gtb := gtb_mem (i := 841) (by decide +kernel) (by decide +kernel)
theorem wd_786 : Cond.selects "StageMachine$Tape" ⟨"StageMachine$Tape", "take", "(II)I"⟩ ⟨"StageMachine$Tape", "take", "(II)I"⟩ ∈ gtb := gtb_mem (i := 842) (by decide +kernel) (by decide +kernel)
set_option maxRecDepth 30000 in
theorem wd_787 : Cond.code ⟨"StageMachine$Tape", "take", "(II)I"⟩ prog_10_method_2_code 4 (some .int) ∈ gtb := gtb_mem (i := 843) rfl (by decide +kernel)
theorem wd_789 : Cond.methodLink "StageMachineLaw" 106 ⟨"StageMachine", "play", "()I"⟩ ∈ gtb := gtb_mem (i := 845) (by decide +kernel) (by decide +kernel)
theorem wd_790 : Cond.instanceMethod ⟨"StageMachine", "play", "()I"⟩ ∈ gtb := gtb_mem (i := 846) (by decide +kernel) (by decide +kernel)
theorem wd_791 : Cond.selects "StageMachine" ⟨"StageMachine", "play", "()I"⟩ ⟨"StageMachine", "play", "()I"⟩ ∈ gtb := gtb_mem (i := 847) (by decide +kernel) (by decide +kernel)
set_option maxRecDepth 30000 in
theorem wd_792 : Cond.code ⟨"StageMachine", "play", "()I"⟩ prog_1_method_24_code 4 (some .int) ∈ gtb := gtb_mem (i := 848) rfl (by decide +kernel)
theorem wd_793 : Cond.methodLink "StageMachine" 147 ⟨"StageMachine$Tape", "readLines", "()I"⟩ ∈ gtb := gtb_mem (i := 849) (by decide +kernel) (by decide +kernel)
theorem wd_794 : Cond.instanceMethod ⟨"StageMachine$Tape", "readLines", "()I"⟩ ∈ gtb := gtb_mem (i := 850) (by decide +kernel) (by decide +kernel)
theorem wd_795 : Cond.selects "StageMachine$Tape" ⟨"StageMachine$Tape", "readLines", "()I"⟩ ⟨"StageMachine$Tape", "readLines", "()I"⟩ ∈ gtb := gtb_mem (i := 851) (by decide +kernel) (by decide +kernel)
set_option maxRecDepth 30000 in
theorem wd_796 : Cond.code ⟨"StageMachine$Tape", "readLines", "()I"⟩ prog_10_method_3_code 1 (some .int) ∈ gtb := gtb_mem (i := 852) rfl (by decide +kernel)
theorem wd_797 : Cond.methodLink "StageMachine$Tape" 38 ⟨"StageMachine$Tape", "readLine", "(I)Z"⟩ ∈ gtb := gtb_mem (i := 853) (by decide +kernel) (by decide +kernel)
theorem wd_799 : Cond.instanceMethod ⟨"StageMachine$Tape", "readLine", "(I)Z"⟩ ∈ gtb := gtb_mem (i := 855) (by decide +kernel) (by decide +kernel)
set_option maxRecDepth 30000 in
theorem wd_800 : Cond.code ⟨"StageMachine$Tape", "readLine", "(I)Z"⟩ prog_10_method_4_code 3 (some .boolean) ∈ gtb := gtb_mem (i := 856) rfl (by decide +kernel)
theorem wd_801 : Cond.methodLink "StageMachine$Tape" 42 ⟨"StageMachine$Tape", "peek", "()I"⟩ ∈ gtb := gtb_mem (i := 857) (by decide +kernel) (by decide +kernel)
theorem wd_803 : Cond.instanceMethod ⟨"StageMachine$Tape", "peek", "()I"⟩ ∈ gtb := gtb_mem (i := 859) (by decide +kernel) (by decide +kernel)
set_option maxRecDepth 30000 in
theorem wd_804 : Cond.code ⟨"StageMachine$Tape", "peek", "()I"⟩ prog_10_method_9_code 1 (some .int) ∈ gtb := gtb_mem (i := 860) rfl (by decide +kernel)
theorem wd_805 : Cond.methodLink "StageMachine$Tape" 46 ⟨"StageMachine$Tape", "readTwo", "(IZ)Z"⟩ ∈ gtb := gtb_mem (i := 861) (by decide +kernel) (by decide +kernel)
theorem wd_807 : Cond.instanceMethod ⟨"StageMachine$Tape", "readTwo", "(IZ)Z"⟩ ∈ gtb := gtb_mem (i := 863) (by decide +kernel) (by decide +kernel)
set_option maxRecDepth 30000 in
theorem wd_808 : Cond.code ⟨"StageMachine$Tape", "readTwo", "(IZ)Z"⟩ prog_10_method_6_code 3 (some .boolean) ∈ gtb := gtb_mem (i := 864) rfl (by decide +kernel)
theorem wd_809 : Cond.methodLink "StageMachine$Tape" 53 ⟨"StageMachine$Tape", "readNumber", "(Z)Z"⟩ ∈ gtb := gtb_mem (i := 865) (by decide +kernel) (by decide +kernel)
theorem wd_811 : Cond.instanceMethod ⟨"StageMachine$Tape", "readNumber", "(Z)Z"⟩ ∈ gtb := gtb_mem (i := 867) (by decide +kernel) (by decide +kernel)
set_option maxRecDepth 30000 in
theorem wd_812 : Cond.code ⟨"StageMachine$Tape", "readNumber", "(Z)Z"⟩ prog_10_method_7_code 4 (some .boolean) ∈ gtb := gtb_mem (i := 868) rfl (by decide +kernel)
theorem wd_813 : Cond.methodLink "StageMachine$Tape" 60 ⟨"StageMachine$Tape", "readSign", "(I)Z"⟩ ∈ gtb := gtb_mem (i := 869) (by decide +kernel) (by decide +kernel)
theorem wd_815 : Cond.instanceMethod ⟨"StageMachine$Tape", "readSign", "(I)Z"⟩ ∈ gtb := gtb_mem (i := 871) (by decide +kernel) (by decide +kernel)
set_option maxRecDepth 30000 in
theorem wd_816 : Cond.code ⟨"StageMachine$Tape", "readSign", "(I)Z"⟩ prog_10_method_8_code 2 (some .boolean) ∈ gtb := gtb_mem (i := 872) rfl (by decide +kernel)
theorem wd_817 : Cond.methodLink "StageMachine$Tape" 50 ⟨"StageMachine$Tape", "readOne", "(IZ)Z"⟩ ∈ gtb := gtb_mem (i := 873) (by decide +kernel) (by decide +kernel)
theorem wd_819 : Cond.instanceMethod ⟨"StageMachine$Tape", "readOne", "(IZ)Z"⟩ ∈ gtb := gtb_mem (i := 875) (by decide +kernel) (by decide +kernel)
set_option maxRecDepth 30000 in
theorem wd_820 : Cond.code ⟨"StageMachine$Tape", "readOne", "(IZ)Z"⟩ prog_10_method_5_code 3 (some .boolean) ∈ gtb := gtb_mem (i := 876) rfl (by decide +kernel)
theorem wd_821 : Cond.methodLink "StageMachine" 154 ⟨"StageMachine$Stage", "keep", "()V"⟩ ∈ gtb := gtb_mem (i := 877) (by decide +kernel) (by decide +kernel)
theorem wd_822 : Cond.instanceMethod ⟨"StageMachine$Stage", "keep", "()V"⟩ ∈ gtb := gtb_mem (i := 878) (by decide +kernel) (by decide +kernel)
theorem wd_823 : Cond.selects "StageMachine$Stage" ⟨"StageMachine$Stage", "keep", "()V"⟩ ⟨"StageMachine$Stage", "keep", "()V"⟩ ∈ gtb := gtb_mem (i := 879) (by decide +kernel) (by decide +kernel)
set_option maxRecDepth 30000 in
theorem wd_824 : Cond.code ⟨"StageMachine$Stage", "keep", "()V"⟩ prog_7_method_25_code 3 none ∈ gtb := gtb_mem (i := 880) rfl (by decide +kernel)
theorem wd_825 : Cond.methodLink "StageMachine$Stage" 204 ⟨"java/lang/System", "arraycopy", "(Ljava/lang/Object;ILjava/lang/Object;II)V"⟩ ∈ gtb := gtb_mem (i := 881) (by decide +kernel) (by decide +kernel)
theorem wd_826 : Cond.static ⟨"java/lang/System", "arraycopy", "(Ljava/lang/Object;ILjava/lang/Object;II)V"⟩ ∈ gtb := gtb_mem (i := 882) (by decide +kernel) (by decide +kernel)
theorem wd_827 : Cond.native ⟨"java/lang/System", "arraycopy", "(Ljava/lang/Object;ILjava/lang/Object;II)V"⟩ ∈ gtb := gtb_mem (i := 883) (by decide +kernel) (by decide +kernel)
theorem wd_828 : Cond.methodLink "StageMachine" 164 ⟨"StageMachine", "playLine", "(I)I"⟩ ∈ gtb := gtb_mem (i := 884) (by decide +kernel) (by decide +kernel)
theorem wd_830 : Cond.instanceMethod ⟨"StageMachine", "playLine", "(I)I"⟩ ∈ gtb := gtb_mem (i := 886) (by decide +kernel) (by decide +kernel)
set_option maxRecDepth 30000 in
theorem wd_831 : Cond.code ⟨"StageMachine", "playLine", "(I)I"⟩ prog_1_method_36_code 4 (some .int) ∈ gtb := gtb_mem (i := 887) rfl (by decide +kernel)
theorem wd_832 : Cond.methodLink "StageMachine" 229 ⟨"java/lang/Math", "abs", "(I)I"⟩ ∈ gtb := gtb_mem (i := 888) (by decide +kernel) (by decide +kernel)
theorem wd_833 : Cond.methodLink "StageMachineLaw" 110 ⟨"StageMachine", "back", "()I"⟩ ∈ gtb := gtb_mem (i := 889) (by decide +kernel) (by decide +kernel)
theorem wd_834 : Cond.instanceMethod ⟨"StageMachine", "back", "()I"⟩ ∈ gtb := gtb_mem (i := 890) (by decide +kernel) (by decide +kernel)
theorem wd_835 : Cond.selects "StageMachine" ⟨"StageMachine", "back", "()I"⟩ ⟨"StageMachine", "back", "()I"⟩ ∈ gtb := gtb_mem (i := 891) (by decide +kernel) (by decide +kernel)
set_option maxRecDepth 30000 in
theorem wd_836 : Cond.code ⟨"StageMachine", "back", "()I"⟩ prog_1_method_25_code 1 (some .int) ∈ gtb := gtb_mem (i := 892) rfl (by decide +kernel)
theorem wd_837 : Cond.methodLink "StageMachine" 167 ⟨"StageMachine$Stage", "restore", "()V"⟩ ∈ gtb := gtb_mem (i := 893) (by decide +kernel) (by decide +kernel)
theorem wd_838 : Cond.instanceMethod ⟨"StageMachine$Stage", "restore", "()V"⟩ ∈ gtb := gtb_mem (i := 894) (by decide +kernel) (by decide +kernel)
theorem wd_839 : Cond.selects "StageMachine$Stage" ⟨"StageMachine$Stage", "restore", "()V"⟩ ⟨"StageMachine$Stage", "restore", "()V"⟩ ∈ gtb := gtb_mem (i := 895) (by decide +kernel) (by decide +kernel)
set_option maxRecDepth 30000 in
theorem wd_840 : Cond.code ⟨"StageMachine$Stage", "restore", "()V"⟩ prog_7_method_26_code 3 none ∈ gtb := gtb_mem (i := 896) rfl (by decide +kernel)
theorem wd_841 : Cond.methodLink "StageMachineLaw" 114 ⟨"StageMachine", "candle", "(I)I"⟩ ∈ gtb := gtb_mem (i := 897) (by decide +kernel) (by decide +kernel)
theorem wd_842 : Cond.instanceMethod ⟨"StageMachine", "candle", "(I)I"⟩ ∈ gtb := gtb_mem (i := 898) (by decide +kernel) (by decide +kernel)
theorem wd_843 : Cond.selects "StageMachine" ⟨"StageMachine", "candle", "(I)I"⟩ ⟨"StageMachine", "candle", "(I)I"⟩ ∈ gtb := gtb_mem (i := 899) (by decide +kernel) (by decide +kernel)
set_option maxRecDepth 30000 in
theorem wd_844 : Cond.code ⟨"StageMachine", "candle", "(I)I"⟩ prog_1_method_26_code 2 (some .int) ∈ gtb := gtb_mem (i := 900) rfl (by decide +kernel)
theorem wd_845 : Cond.methodLink "StageMachine" 170 ⟨"StageMachine$Candles", "add", "(I)I"⟩ ∈ gtb := gtb_mem (i := 901) (by decide +kernel) (by decide +kernel)
theorem wd_846 : Cond.instanceMethod ⟨"StageMachine$Candles", "add", "(I)I"⟩ ∈ gtb := gtb_mem (i := 902) (by decide +kernel) (by decide +kernel)
theorem wd_847 : Cond.selects "StageMachine$Candles" ⟨"StageMachine$Candles", "add", "(I)I"⟩ ⟨"StageMachine$Candles", "add", "(I)I"⟩ ∈ gtb := gtb_mem (i := 903) (by decide +kernel) (by decide +kernel)
set_option maxRecDepth 30000 in
theorem wd_848 : Cond.code ⟨"StageMachine$Candles", "add", "(I)I"⟩ prog_2_method_2_code 2 (some .int) ∈ gtb := gtb_mem (i := 904) rfl (by decide +kernel)
theorem wd_850 : Cond.methodLink "StageMachineLaw" 118 ⟨"StageMachine", "minutes", "(I)I"⟩ ∈ gtb := gtb_mem (i := 906) (by decide +kernel) (by decide +kernel)
theorem wd_851 : Cond.instanceMethod ⟨"StageMachine", "minutes", "(I)I"⟩ ∈ gtb := gtb_mem (i := 907) (by decide +kernel) (by decide +kernel)
theorem wd_852 : Cond.selects "StageMachine" ⟨"StageMachine", "minutes", "(I)I"⟩ ⟨"StageMachine", "minutes", "(I)I"⟩ ∈ gtb := gtb_mem (i := 908) (by decide +kernel) (by decide +kernel)
set_option maxRecDepth 30000 in
theorem wd_853 : Cond.code ⟨"StageMachine", "minutes", "(I)I"⟩ prog_1_method_27_code 2 (some .int) ∈ gtb := gtb_mem (i := 909) rfl (by decide +kernel)
theorem wd_854 : Cond.methodLink "StageMachine" 173 ⟨"StageMachine$Candles", "pass", "(I)I"⟩ ∈ gtb := gtb_mem (i := 910) (by decide +kernel) (by decide +kernel)
theorem wd_855 : Cond.instanceMethod ⟨"StageMachine$Candles", "pass", "(I)I"⟩ ∈ gtb := gtb_mem (i := 911) (by decide +kernel) (by decide +kernel)
theorem wd_856 : Cond.selects "StageMachine$Candles" ⟨"StageMachine$Candles", "pass", "(I)I"⟩ ⟨"StageMachine$Candles", "pass", "(I)I"⟩ ∈ gtb := gtb_mem (i := 912) (by decide +kernel) (by decide +kernel)
set_option maxRecDepth 30000 in
theorem wd_857 : Cond.code ⟨"StageMachine$Candles", "pass", "(I)I"⟩ prog_2_method_3_code 2 (some .int) ∈ gtb := gtb_mem (i := 913) rfl (by decide +kernel)
theorem wd_858 : Cond.methodLink "StageMachineLaw" 122 ⟨"StageMachine", "trim", "(I)I"⟩ ∈ gtb := gtb_mem (i := 914) (by decide +kernel) (by decide +kernel)
theorem wd_859 : Cond.instanceMethod ⟨"StageMachine", "trim", "(I)I"⟩ ∈ gtb := gtb_mem (i := 915) (by decide +kernel) (by decide +kernel)
theorem wd_860 : Cond.selects "StageMachine" ⟨"StageMachine", "trim", "(I)I"⟩ ⟨"StageMachine", "trim", "(I)I"⟩ ∈ gtb := gtb_mem (i := 916) (by decide +kernel) (by decide +kernel)
set_option maxRecDepth 30000 in
theorem wd_861 : Cond.code ⟨"StageMachine", "trim", "(I)I"⟩ prog_1_method_28_code 2 (some .int) ∈ gtb := gtb_mem (i := 917) rfl (by decide +kernel)
theorem wd_862 : Cond.methodLink "StageMachine" 176 ⟨"StageMachine$Candles", "renew", "(I)I"⟩ ∈ gtb := gtb_mem (i := 918) (by decide +kernel) (by decide +kernel)
theorem wd_863 : Cond.instanceMethod ⟨"StageMachine$Candles", "renew", "(I)I"⟩ ∈ gtb := gtb_mem (i := 919) (by decide +kernel) (by decide +kernel)
theorem wd_864 : Cond.selects "StageMachine$Candles" ⟨"StageMachine$Candles", "renew", "(I)I"⟩ ⟨"StageMachine$Candles", "renew", "(I)I"⟩ ∈ gtb := gtb_mem (i := 920) (by decide +kernel) (by decide +kernel)
set_option maxRecDepth 30000 in
theorem wd_865 : Cond.code ⟨"StageMachine$Candles", "renew", "(I)I"⟩ prog_2_method_4_code 4 (some .int) ∈ gtb := gtb_mem (i := 921) rfl (by decide +kernel)
theorem wd_866 : Cond.methodLink "StageMachineLaw" 126 ⟨"StageMachine", "light", "(I)I"⟩ ∈ gtb := gtb_mem (i := 922) (by decide +kernel) (by decide +kernel)
theorem wd_867 : Cond.instanceMethod ⟨"StageMachine", "light", "(I)I"⟩ ∈ gtb := gtb_mem (i := 923) (by decide +kernel) (by decide +kernel)
theorem wd_868 : Cond.selects "StageMachine" ⟨"StageMachine", "light", "(I)I"⟩ ⟨"StageMachine", "light", "(I)I"⟩ ∈ gtb := gtb_mem (i := 924) (by decide +kernel) (by decide +kernel)
set_option maxRecDepth 30000 in
theorem wd_869 : Cond.code ⟨"StageMachine", "light", "(I)I"⟩ prog_1_method_29_code 2 (some .int) ∈ gtb := gtb_mem (i := 925) rfl (by decide +kernel)
theorem wd_870 : Cond.methodLink "StageMachine" 179 ⟨"StageMachine$Candles", "tell", "(I)I"⟩ ∈ gtb := gtb_mem (i := 926) (by decide +kernel) (by decide +kernel)
theorem wd_871 : Cond.instanceMethod ⟨"StageMachine$Candles", "tell", "(I)I"⟩ ∈ gtb := gtb_mem (i := 927) (by decide +kernel) (by decide +kernel)
theorem wd_872 : Cond.selects "StageMachine$Candles" ⟨"StageMachine$Candles", "tell", "(I)I"⟩ ⟨"StageMachine$Candles", "tell", "(I)I"⟩ ∈ gtb := gtb_mem (i := 928) (by decide +kernel) (by decide +kernel)
set_option maxRecDepth 30000 in
theorem wd_873 : Cond.code ⟨"StageMachine$Candles", "tell", "(I)I"⟩ prog_2_method_5_code 2 (some .int) ∈ gtb := gtb_mem (i := 929) rfl (by decide +kernel)
theorem wd_874 : Cond.methodLink "StageMachine$Candles" 29 ⟨"StageMachine$Candles", "burning", "()I"⟩ ∈ gtb := gtb_mem (i := 930) (by decide +kernel) (by decide +kernel)
theorem wd_876 : Cond.instanceMethod ⟨"StageMachine$Candles", "burning", "()I"⟩ ∈ gtb := gtb_mem (i := 932) (by decide +kernel) (by decide +kernel)
set_option maxRecDepth 30000 in
theorem wd_877 : Cond.code ⟨"StageMachine$Candles", "burning", "()I"⟩ prog_2_method_6_code 3 (some .int) ∈ gtb := gtb_mem (i := 933) rfl (by decide +kernel)
theorem wd_878 : Cond.methodLink "StageMachine$Candles" 33 ⟨"StageMachine$Candles", "leastLeft", "()I"⟩ ∈ gtb := gtb_mem (i := 934) (by decide +kernel) (by decide +kernel)
theorem wd_880 : Cond.instanceMethod ⟨"StageMachine$Candles", "leastLeft", "()I"⟩ ∈ gtb := gtb_mem (i := 936) (by decide +kernel) (by decide +kernel)
set_option maxRecDepth 30000 in
theorem wd_881 : Cond.code ⟨"StageMachine$Candles", "leastLeft", "()I"⟩ prog_2_method_7_code 4 (some .int) ∈ gtb := gtb_mem (i := 937) rfl (by decide +kernel)
theorem wd_882 : Cond.methodLink "StageMachineLaw" 130 ⟨"StageMachine", "flat", "(II)I"⟩ ∈ gtb := gtb_mem (i := 938) (by decide +kernel) (by decide +kernel)
theorem wd_883 : Cond.instanceMethod ⟨"StageMachine", "flat", "(II)I"⟩ ∈ gtb := gtb_mem (i := 939) (by decide +kernel) (by decide +kernel)
theorem wd_884 : Cond.selects "StageMachine" ⟨"StageMachine", "flat", "(II)I"⟩ ⟨"StageMachine", "flat", "(II)I"⟩ ∈ gtb := gtb_mem (i := 940) (by decide +kernel) (by decide +kernel)
set_option maxRecDepth 30000 in
theorem wd_885 : Cond.code ⟨"StageMachine", "flat", "(II)I"⟩ prog_1_method_30_code 3 (some .int) ∈ gtb := gtb_mem (i := 941) rfl (by decide +kernel)
theorem wd_886 : Cond.methodLink "StageMachine" 180 ⟨"StageMachine$Stock", "addFlat", "(II)I"⟩ ∈ gtb := gtb_mem (i := 942) (by decide +kernel) (by decide +kernel)
theorem wd_887 : Cond.instanceMethod ⟨"StageMachine$Stock", "addFlat", "(II)I"⟩ ∈ gtb := gtb_mem (i := 943) (by decide +kernel) (by decide +kernel)
theorem wd_888 : Cond.selects "StageMachine$Stock" ⟨"StageMachine$Stock", "addFlat", "(II)I"⟩ ⟨"StageMachine$Stock", "addFlat", "(II)I"⟩ ∈ gtb := gtb_mem (i := 944) (by decide +kernel) (by decide +kernel)
set_option maxRecDepth 30000 in
theorem wd_889 : Cond.code ⟨"StageMachine$Stock", "addFlat", "(II)I"⟩ prog_8_method_2_code 3 (some .int) ∈ gtb := gtb_mem (i := 945) rfl (by decide +kernel)
theorem wd_890 : Cond.methodLink "StageMachine$Stock" 27 ⟨"StageMachine$Stock", "isPanel", "(II)Z"⟩ ∈ gtb := gtb_mem (i := 946) (by decide +kernel) (by decide +kernel)
theorem wd_891 : Cond.static ⟨"StageMachine$Stock", "isPanel", "(II)Z"⟩ ∈ gtb := gtb_mem (i := 947) (by decide +kernel) (by decide +kernel)
set_option maxRecDepth 30000 in
theorem wd_892 : Cond.code ⟨"StageMachine$Stock", "isPanel", "(II)Z"⟩ prog_8_method_4_code 2 (some .boolean) ∈ gtb := gtb_mem (i := 948) rfl (by decide +kernel)
theorem wd_894 : Cond.instantiable "StageMachine$Panel" 3 ∈ gtb := gtb_mem (i := 950) (by decide +kernel) (by decide +kernel)
theorem wd_895 : Cond.methodLink "StageMachine$Stock" 35 ⟨"StageMachine$Panel", "<init>", "(II)V"⟩ ∈ gtb := gtb_mem (i := 951) (by decide +kernel) (by decide +kernel)
theorem wd_896 : Cond.instanceMethod ⟨"StageMachine$Panel", "<init>", "(II)V"⟩ ∈ gtb := gtb_mem (i := 952) (by decide +kernel) (by decide +kernel)
set_option maxRecDepth 30000 in
theorem wd_897 : Cond.code ⟨"StageMachine$Panel", "<init>", "(II)V"⟩ prog_5_method_1_code 3 none ∈ gtb := gtb_mem (i := 953) rfl (by decide +kernel)
theorem wd_898 : Cond.methodLink "StageMachine$Panel" 1 ⟨"java/lang/Object", "<init>", "()V"⟩ ∈ gtb := gtb_mem (i := 954) (by decide +kernel) (by decide +kernel)
theorem wd_899 : Cond.fieldLink "StageMachine$Panel" 7 "StageMachine$Panel" "height" "I" ∈ gtb := gtb_mem (i := 955) (by decide +kernel) (by decide +kernel)
theorem wd_900 : Cond.fieldLink "StageMachine$Panel" 13 "StageMachine$Panel" "width" "I" ∈ gtb := gtb_mem (i := 956) (by decide +kernel) (by decide +kernel)
theorem wd_901 : Cond.fieldLink "StageMachine$Panel" 16 "StageMachine$Panel" "paint" "I" ∈ gtb := gtb_mem (i := 957) (by decide +kernel) (by decide +kernel)
theorem wd_909 : Cond.methodLink "StageMachineLaw" 134 ⟨"StageMachine", "want", "(II)I"⟩ ∈ gtb := gtb_mem (i := 965) (by decide +kernel) (by decide +kernel)
theorem wd_910 : Cond.instanceMethod ⟨"StageMachine", "want", "(II)I"⟩ ∈ gtb := gtb_mem (i := 966) (by decide +kernel) (by decide +kernel)
theorem wd_911 : Cond.selects "StageMachine" ⟨"StageMachine", "want", "(II)I"⟩ ⟨"StageMachine", "want", "(II)I"⟩ ∈ gtb := gtb_mem (i := 967) (by decide +kernel) (by decide +kernel)
set_option maxRecDepth 30000 in
theorem wd_912 : Cond.code ⟨"StageMachine", "want", "(II)I"⟩ prog_1_method_31_code 3 (some .int) ∈ gtb := gtb_mem (i := 968) rfl (by decide +kernel)
theorem wd_913 : Cond.methodLink "StageMachine" 183 ⟨"StageMachine$Stock", "addWant", "(II)I"⟩ ∈ gtb := gtb_mem (i := 969) (by decide +kernel) (by decide +kernel)
theorem wd_914 : Cond.instanceMethod ⟨"StageMachine$Stock", "addWant", "(II)I"⟩ ∈ gtb := gtb_mem (i := 970) (by decide +kernel) (by decide +kernel)
theorem wd_915 : Cond.selects "StageMachine$Stock" ⟨"StageMachine$Stock", "addWant", "(II)I"⟩ ⟨"StageMachine$Stock", "addWant", "(II)I"⟩ ∈ gtb := gtb_mem (i := 971) (by decide +kernel) (by decide +kernel)
set_option maxRecDepth 30000 in
theorem wd_916 : Cond.code ⟨"StageMachine$Stock", "addWant", "(II)I"⟩ prog_8_method_3_code 3 (some .int) ∈ gtb := gtb_mem (i := 972) rfl (by decide +kernel)
theorem wd_917 : Cond.methodLink "StageMachineLaw" 138 ⟨"StageMachine", "paint", "()I"⟩ ∈ gtb := gtb_mem (i := 973) (by decide +kernel) (by decide +kernel)
theorem wd_918 : Cond.instanceMethod ⟨"StageMachine", "paint", "()I"⟩ ∈ gtb := gtb_mem (i := 974) (by decide +kernel) (by decide +kernel)
theorem wd_919 : Cond.selects "StageMachine" ⟨"StageMachine", "paint", "()I"⟩ ⟨"StageMachine", "paint", "()I"⟩ ∈ gtb := gtb_mem (i := 975) (by decide +kernel) (by decide +kernel)
set_option maxRecDepth 30000 in
theorem wd_920 : Cond.code ⟨"StageMachine", "paint", "()I"⟩ prog_1_method_32_code 1 (some .int) ∈ gtb := gtb_mem (i := 976) rfl (by decide +kernel)
theorem wd_921 : Cond.methodLink "StageMachine" 186 ⟨"StageMachine$Stock", "leastPainting", "()I"⟩ ∈ gtb := gtb_mem (i := 977) (by decide +kernel) (by decide +kernel)
theorem wd_922 : Cond.instanceMethod ⟨"StageMachine$Stock", "leastPainting", "()I"⟩ ∈ gtb := gtb_mem (i := 978) (by decide +kernel) (by decide +kernel)
theorem wd_923 : Cond.selects "StageMachine$Stock" ⟨"StageMachine$Stock", "leastPainting", "()I"⟩ ⟨"StageMachine$Stock", "leastPainting", "()I"⟩ ∈ gtb := gtb_mem (i := 979) (by decide +kernel) (by decide +kernel)
set_option maxRecDepth 30000 in
theorem wd_924 : Cond.code ⟨"StageMachine$Stock", "leastPainting", "()I"⟩ prog_8_method_5_code 2 (some .int) ∈ gtb := gtb_mem (i := 980) rfl (by decide +kernel)
theorem wd_925 : Cond.constant "StageMachine$Stock" 45 (1000000) ∈ gtb := gtb_mem (i := 981) (by decide +kernel) (by decide +kernel)
theorem wd_926 : Cond.methodLink "StageMachine$Stock" 46 ⟨"StageMachine$Stock", "leastSum", "()I"⟩ ∈ gtb := gtb_mem (i := 982) (by decide +kernel) (by decide +kernel)
theorem wd_928 : Cond.instanceMethod ⟨"StageMachine$Stock", "leastSum", "()I"⟩ ∈ gtb := gtb_mem (i := 984) (by decide +kernel) (by decide +kernel)
set_option maxRecDepth 30000 in
theorem wd_929 : Cond.code ⟨"StageMachine$Stock", "leastSum", "()I"⟩ prog_8_method_6_code 3 (some .int) ∈ gtb := gtb_mem (i := 985) rfl (by decide +kernel)
theorem wd_930 : Cond.methodLink "StageMachine$Stock" 53 ⟨"java/lang/Integer", "bitCount", "(I)I"⟩ ∈ gtb := gtb_mem (i := 986) (by decide +kernel) (by decide +kernel)
theorem wd_931 : Cond.static ⟨"java/lang/Integer", "bitCount", "(I)I"⟩ ∈ gtb := gtb_mem (i := 987) (by decide +kernel) (by decide +kernel)
set_option maxRecDepth 30000 in
theorem wd_932 : Cond.code ⟨"java/lang/Integer", "bitCount", "(I)I"⟩ prog_15_method_49_code 1 (some .int) ∈ gtb := gtb_mem (i := 988) rfl (by decide +kernel)
theorem wd_933 : Cond.constant "java/lang/Integer" 265 (1431655765) ∈ gtb := gtb_mem (i := 989) (by decide +kernel) (by decide +kernel)
theorem wd_934 : Cond.constant "java/lang/Integer" 266 (858993459) ∈ gtb := gtb_mem (i := 990) (by decide +kernel) (by decide +kernel)
theorem wd_935 : Cond.constant "java/lang/Integer" 267 (252645135) ∈ gtb := gtb_mem (i := 991) (by decide +kernel) (by decide +kernel)
theorem wd_936 : Cond.methodLink "StageMachine$Stock" 59 ⟨"StageMachine$Stock", "leastSumBehind", "(ILStageMachine$Panel;)I"⟩ ∈ gtb := gtb_mem (i := 992) (by decide +kernel) (by decide +kernel)
theorem wd_938 : Cond.instanceMethod ⟨"StageMachine$Stock", "leastSumBehind", "(ILStageMachine$Panel;)I"⟩ ∈ gtb := gtb_mem (i := 994) (by decide +kernel) (by decide +kernel)
set_option maxRecDepth 30000 in
theorem wd_939 : Cond.code ⟨"StageMachine$Stock", "leastSumBehind", "(ILStageMachine$Panel;)I"⟩ prog_8_method_7_code 5 (some .int) ∈ gtb := gtb_mem (i := 995) rfl (by decide +kernel)
theorem wd_940 : Cond.methodLink "StageMachine$Stock" 63 ⟨"StageMachine$Stock", "sumWith", "(IILStageMachine$Panel;)I"⟩ ∈ gtb := gtb_mem (i := 996) (by decide +kernel) (by decide +kernel)
theorem wd_942 : Cond.instanceMethod ⟨"StageMachine$Stock", "sumWith", "(IILStageMachine$Panel;)I"⟩ ∈ gtb := gtb_mem (i := 998) (by decide +kernel) (by decide +kernel)
set_option maxRecDepth 30000 in
theorem wd_943 : Cond.code ⟨"StageMachine$Stock", "sumWith", "(IILStageMachine$Panel;)I"⟩ prog_8_method_8_code 5 (some .int) ∈ gtb := gtb_mem (i := 999) rfl (by decide +kernel)
theorem wd_944 : Cond.methodLink "StageMachine$Stock" 73 ⟨"StageMachine$Panel", "serves", "(LStageMachine$Panel;)Z"⟩ ∈ gtb := gtb_mem (i := 1000) (by decide +kernel) (by decide +kernel)
theorem wd_945 : Cond.instanceMethod ⟨"StageMachine$Panel", "serves", "(LStageMachine$Panel;)Z"⟩ ∈ gtb := gtb_mem (i := 1001) (by decide +kernel) (by decide +kernel)
theorem wd_946 : Cond.selects "StageMachine$Panel" ⟨"StageMachine$Panel", "serves", "(LStageMachine$Panel;)Z"⟩ ⟨"StageMachine$Panel", "serves", "(LStageMachine$Panel;)Z"⟩ ∈ gtb := gtb_mem (i := 1002) (by decide +kernel) (by decide +kernel)
set_option maxRecDepth 30000 in
theorem wd_947 : Cond.code ⟨"StageMachine$Panel", "serves", "(LStageMachine$Panel;)Z"⟩ prog_5_method_3_code 2 (some .boolean) ∈ gtb := gtb_mem (i := 1003) rfl (by decide +kernel)
theorem wd_948 : Cond.methodLink "StageMachine$Stock" 77 ⟨"StageMachine$Panel", "priceFor", "(LStageMachine$Panel;)I"⟩ ∈ gtb := gtb_mem (i := 1004) (by decide +kernel) (by decide +kernel)
theorem wd_949 : Cond.instanceMethod ⟨"StageMachine$Panel", "priceFor", "(LStageMachine$Panel;)I"⟩ ∈ gtb := gtb_mem (i := 1005) (by decide +kernel) (by decide +kernel)
theorem wd_950 : Cond.selects "StageMachine$Panel" ⟨"StageMachine$Panel", "priceFor", "(LStageMachine$Panel;)I"⟩ ⟨"StageMachine$Panel", "priceFor", "(LStageMachine$Panel;)I"⟩ ∈ gtb := gtb_mem (i := 1006) (by decide +kernel) (by decide +kernel)
set_option maxRecDepth 30000 in
theorem wd_951 : Cond.code ⟨"StageMachine$Panel", "priceFor", "(LStageMachine$Panel;)I"⟩ prog_5_method_4_code 3 (some .int) ∈ gtb := gtb_mem (i := 1007) rfl (by decide +kernel)
theorem wd_952 : Cond.methodLink "StageMachine$Panel" 19 ⟨"StageMachine$Panel", "area", "()I"⟩ ∈ gtb := gtb_mem (i := 1008) (by decide +kernel) (by decide +kernel)
theorem wd_953 : Cond.instanceMethod ⟨"StageMachine$Panel", "area", "()I"⟩ ∈ gtb := gtb_mem (i := 1009) (by decide +kernel) (by decide +kernel)
theorem wd_954 : Cond.selects "StageMachine$Panel" ⟨"StageMachine$Panel", "area", "()I"⟩ ⟨"StageMachine$Panel", "area", "()I"⟩ ∈ gtb := gtb_mem (i := 1010) (by decide +kernel) (by decide +kernel)
set_option maxRecDepth 30000 in
theorem wd_955 : Cond.code ⟨"StageMachine$Panel", "area", "()I"⟩ prog_5_method_2_code 1 (some .int) ∈ gtb := gtb_mem (i := 1011) rfl (by decide +kernel)
theorem wd_956 : Cond.methodLink "StageMachine$Stock" 67 ⟨"java/lang/Math", "min", "(II)I"⟩ ∈ gtb := gtb_mem (i := 1012) (by decide +kernel) (by decide +kernel)
theorem wd_957 : Cond.methodLink "StageMachine$Stock" 50 ⟨"StageMachine$Stock", "give", "()V"⟩ ∈ gtb := gtb_mem (i := 1013) (by decide +kernel) (by decide +kernel)
theorem wd_959 : Cond.instanceMethod ⟨"StageMachine$Stock", "give", "()V"⟩ ∈ gtb := gtb_mem (i := 1015) (by decide +kernel) (by decide +kernel)
set_option maxRecDepth 30000 in
theorem wd_960 : Cond.code ⟨"StageMachine$Stock", "give", "()V"⟩ prog_8_method_9_code 4 none ∈ gtb := gtb_mem (i := 1016) rfl (by decide +kernel)
theorem wd_961 : Cond.methodLink "StageMachineLaw" 142 ⟨"StageMachine", "given", "(I)I"⟩ ∈ gtb := gtb_mem (i := 1017) (by decide +kernel) (by decide +kernel)
theorem wd_962 : Cond.instanceMethod ⟨"StageMachine", "given", "(I)I"⟩ ∈ gtb := gtb_mem (i := 1018) (by decide +kernel) (by decide +kernel)
theorem wd_963 : Cond.selects "StageMachine" ⟨"StageMachine", "given", "(I)I"⟩ ⟨"StageMachine", "given", "(I)I"⟩ ∈ gtb := gtb_mem (i := 1019) (by decide +kernel) (by decide +kernel)
set_option maxRecDepth 30000 in
theorem wd_964 : Cond.code ⟨"StageMachine", "given", "(I)I"⟩ prog_1_method_33_code 2 (some .int) ∈ gtb := gtb_mem (i := 1020) rfl (by decide +kernel)
theorem wd_965 : Cond.methodLink "StageMachine" 189 ⟨"StageMachine$Stock", "givenTo", "(I)I"⟩ ∈ gtb := gtb_mem (i := 1021) (by decide +kernel) (by decide +kernel)
theorem wd_966 : Cond.instanceMethod ⟨"StageMachine$Stock", "givenTo", "(I)I"⟩ ∈ gtb := gtb_mem (i := 1022) (by decide +kernel) (by decide +kernel)
theorem wd_967 : Cond.selects "StageMachine$Stock" ⟨"StageMachine$Stock", "givenTo", "(I)I"⟩ ⟨"StageMachine$Stock", "givenTo", "(I)I"⟩ ∈ gtb := gtb_mem (i := 1023) (by decide +kernel) (by decide +kernel)
set_option maxRecDepth 30000 in
theorem wd_968 : Cond.code ⟨"StageMachine$Stock", "givenTo", "(I)I"⟩ prog_8_method_10_code 2 (some .int) ∈ gtb := gtb_mem (i := 1024) rfl (by decide +kernel)
theorem wd_969 : Cond.methodLink "StageMachineLaw" 146 ⟨"StageMachine", "count", "(I)I"⟩ ∈ gtb := gtb_mem (i := 1025) (by decide +kernel) (by decide +kernel)
theorem wd_970 : Cond.instanceMethod ⟨"StageMachine", "count", "(I)I"⟩ ∈ gtb := gtb_mem (i := 1026) (by decide +kernel) (by decide +kernel)
theorem wd_971 : Cond.selects "StageMachine" ⟨"StageMachine", "count", "(I)I"⟩ ⟨"StageMachine", "count", "(I)I"⟩ ∈ gtb := gtb_mem (i := 1027) (by decide +kernel) (by decide +kernel)
set_option maxRecDepth 30000 in
theorem wd_972 : Cond.code ⟨"StageMachine", "count", "(I)I"⟩ prog_1_method_34_code 2 (some .int) ∈ gtb := gtb_mem (i := 1028) rfl (by decide +kernel)
theorem wd_973 : Cond.methodLink "StageMachine" 201 ⟨"StageMachine$Stage", "tiedCount", "()I"⟩ ∈ gtb := gtb_mem (i := 1029) (by decide +kernel) (by decide +kernel)
theorem wd_974 : Cond.instanceMethod ⟨"StageMachine$Stage", "tiedCount", "()I"⟩ ∈ gtb := gtb_mem (i := 1030) (by decide +kernel) (by decide +kernel)
theorem wd_975 : Cond.selects "StageMachine$Stage" ⟨"StageMachine$Stage", "tiedCount", "()I"⟩ ⟨"StageMachine$Stage", "tiedCount", "()I"⟩ ∈ gtb := gtb_mem (i := 1031) (by decide +kernel) (by decide +kernel)
set_option maxRecDepth 30000 in
theorem wd_976 : Cond.code ⟨"StageMachine$Stage", "tiedCount", "()I"⟩ prog_7_method_12_code 3 (some .int) ∈ gtb := gtb_mem (i := 1032) rfl (by decide +kernel)
theorem wd_977 : Cond.classLink "StageMachineLaw" 10 "StageMachineModel" ∈ gtb := gtb_mem (i := 1033) (by decide +kernel) (by decide +kernel)
theorem wd_978 : Cond.instantiable "StageMachineModel" 65 ∈ gtb := gtb_mem (i := 1034) (by decide +kernel) (by decide +kernel)
theorem wd_979 : Cond.methodLink "StageMachineLaw" 12 ⟨"StageMachineModel", "<init>", "()V"⟩ ∈ gtb := gtb_mem (i := 1035) (by decide +kernel) (by decide +kernel)
theorem wd_980 : Cond.instanceMethod ⟨"StageMachineModel", "<init>", "()V"⟩ ∈ gtb := gtb_mem (i := 1036) (by decide +kernel) (by decide +kernel)
set_option maxRecDepth 30000 in
theorem wd_981 : Cond.code ⟨"StageMachineModel", "<init>", "()V"⟩ prog_14_method_1_code 1 none ∈ gtb := gtb_mem (i := 1037) rfl (by decide +kernel)
theorem wd_982 : Cond.methodLink "StageMachineModel" 1 ⟨"java/lang/Object", "<init>", "()V"⟩ ∈ gtb := gtb_mem (i := 1038) (by decide +kernel) (by decide +kernel)
theorem wd_983 : Cond.constant "StageMachineModel" 59 (99999) ∈ gtb := gtb_mem (i := 1039) (by decide +kernel) (by decide +kernel)
theorem wd_984 : Cond.fieldLink "StageMachineModel" 146 "StageMachineModel" "things" "I" ∈ gtb := gtb_mem (i := 1040) (by decide +kernel) (by decide +kernel)
theorem wd_985 : Cond.fieldLink "StageMachineModel" 7 "StageMachineModel" "lane" "[I" ∈ gtb := gtb_mem (i := 1041) (by decide +kernel) (by decide +kernel)
theorem wd_986 : Cond.fieldLink "StageMachineModel" 13 "StageMachineModel" "width" "[I" ∈ gtb := gtb_mem (i := 1042) (by decide +kernel) (by decide +kernel)
theorem wd_987 : Cond.fieldLink "StageMachineModel" 16 "StageMachineModel" "weightOf" "[I" ∈ gtb := gtb_mem (i := 1043) (by decide +kernel) (by decide +kernel)
theorem wd_988 : Cond.fieldLink "StageMachineModel" 19 "StageMachineModel" "at" "[I" ∈ gtb := gtb_mem (i := 1044) (by decide +kernel) (by decide +kernel)
theorem wd_989 : Cond.fieldLink "StageMachineModel" 22 "StageMachineModel" "least" "[I" ∈ gtb := gtb_mem (i := 1045) (by decide +kernel) (by decide +kernel)
theorem wd_990 : Cond.fieldLink "StageMachineModel" 25 "StageMachineModel" "most" "[I" ∈ gtb := gtb_mem (i := 1046) (by decide +kernel) (by decide +kernel)
theorem wd_991 : Cond.fieldLink "StageMachineModel" 28 "StageMachineModel" "atThen" "[I" ∈ gtb := gtb_mem (i := 1047) (by decide +kernel) (by decide +kernel)
theorem wd_992 : Cond.fieldLink "StageMachineModel" 156 "StageMachineModel" "drums" "I" ∈ gtb := gtb_mem (i := 1048) (by decide +kernel) (by decide +kernel)
theorem wd_993 : Cond.fieldLink "StageMachineModel" 31 "StageMachineModel" "size" "[I" ∈ gtb := gtb_mem (i := 1049) (by decide +kernel) (by decide +kernel)
theorem wd_994 : Cond.fieldLink "StageMachineModel" 153 "StageMachineModel" "ropes" "I" ∈ gtb := gtb_mem (i := 1050) (by decide +kernel) (by decide +kernel)
theorem wd_995 : Cond.fieldLink "StageMachineModel" 34 "StageMachineModel" "ropeThing" "[I" ∈ gtb := gtb_mem (i := 1051) (by decide +kernel) (by decide +kernel)
theorem wd_996 : Cond.fieldLink "StageMachineModel" 37 "StageMachineModel" "gear" "[I" ∈ gtb := gtb_mem (i := 1052) (by decide +kernel) (by decide +kernel)
theorem wd_997 : Cond.fieldLink "StageMachineModel" 40 "StageMachineModel" "way" "[I" ∈ gtb := gtb_mem (i := 1053) (by decide +kernel) (by decide +kernel)
theorem wd_998 : Cond.fieldLink "StageMachineModel" 43 "StageMachineModel" "holds" "[I" ∈ gtb := gtb_mem (i := 1054) (by decide +kernel) (by decide +kernel)
theorem wd_999 : Cond.fieldLink "StageMachineModel" 46 "StageMachineModel" "drumOf" "[I" ∈ gtb := gtb_mem (i := 1055) (by decide +kernel) (by decide +kernel)
theorem wd_1000 : Cond.fieldLink "StageMachineModel" 49 "StageMachineModel" "done" "[I" ∈ gtb := gtb_mem (i := 1056) (by decide +kernel) (by decide +kernel)
theorem wd_1001 : Cond.fieldLink "StageMachineModel" 52 "StageMachineModel" "isGone" "[Z" ∈ gtb := gtb_mem (i := 1057) (by decide +kernel) (by decide +kernel)
theorem wd_1002 : Cond.fieldLink "StageMachineModel" 56 "StageMachineModel" "counter" "[I" ∈ gtb := gtb_mem (i := 1058) (by decide +kernel) (by decide +kernel)
theorem wd_1003 : Cond.fieldLink "StageMachineModel" 60 "StageMachineModel" "bound" "I" ∈ gtb := gtb_mem (i := 1059) (by decide +kernel) (by decide +kernel)
theorem wd_1004 : Cond.fieldLink "StageMachineModel" 211 "StageMachineModel" "shaft" "I" ∈ gtb := gtb_mem (i := 1060) (by decide +kernel) (by decide +kernel)
theorem wd_1005 : Cond.fieldLink "StageMachineModel" 214 "StageMachineModel" "wear" "I" ∈ gtb := gtb_mem (i := 1061) (by decide +kernel) (by decide +kernel)
theorem wd_1006 : Cond.fieldLink "StageMachineModel" 194 "StageMachineModel" "why" "I" ∈ gtb := gtb_mem (i := 1062) (by decide +kernel) (by decide +kernel)
theorem wd_1007 : Cond.fieldLink "StageMachineModel" 64 "StageMachineModel" "whyThing" "I" ∈ gtb := gtb_mem (i := 1063) (by decide +kernel) (by decide +kernel)
theorem wd_1008 : Cond.fieldLink "StageMachineModel" 67 "StageMachineModel" "whyOther" "I" ∈ gtb := gtb_mem (i := 1064) (by decide +kernel) (by decide +kernel)
theorem wd_1009 : Cond.fieldLink "StageMachineModel" 70 "StageMachineModel" "catches" "[I" ∈ gtb := gtb_mem (i := 1065) (by decide +kernel) (by decide +kernel)
theorem wd_1010 : Cond.fieldLink "StageMachineModel" 73 "StageMachineModel" "catchAt" "[I" ∈ gtb := gtb_mem (i := 1066) (by decide +kernel) (by decide +kernel)
theorem wd_1011 : Cond.fieldLink "StageMachineModel" 76 "StageMachineModel" "scenes" "[I" ∈ gtb := gtb_mem (i := 1067) (by decide +kernel) (by decide +kernel)
theorem wd_1012 : Cond.fieldLink "StageMachineModel" 227 "StageMachineModel" "hasChange" "Z" ∈ gtb := gtb_mem (i := 1068) (by decide +kernel) (by decide +kernel)
theorem wd_1013 : Cond.fieldLink "StageMachineModel" 230 "StageMachineModel" "isNone" "Z" ∈ gtb := gtb_mem (i := 1069) (by decide +kernel) (by decide +kernel)
theorem wd_1014 : Cond.fieldLink "StageMachineModel" 79 "StageMachineModel" "toldRope" "[I" ∈ gtb := gtb_mem (i := 1070) (by decide +kernel) (by decide +kernel)
theorem wd_1015 : Cond.fieldLink "StageMachineModel" 82 "StageMachineModel" "toldDrum" "[I" ∈ gtb := gtb_mem (i := 1071) (by decide +kernel) (by decide +kernel)
theorem wd_1016 : Cond.fieldLink "StageMachineModel" 85 "StageMachineModel" "works" "[I" ∈ gtb := gtb_mem (i := 1072) (by decide +kernel) (by decide +kernel)
theorem wd_1017 : Cond.fieldLink "StageMachineModel" 233 "StageMachineModel" "toldMany" "I" ∈ gtb := gtb_mem (i := 1073) (by decide +kernel) (by decide +kernel)
theorem wd_1018 : Cond.fieldLink "StageMachineModel" 88 "StageMachineModel" "leastMen" "[I" ∈ gtb := gtb_mem (i := 1074) (by decide +kernel) (by decide +kernel)
theorem wd_1019 : Cond.fieldLink "StageMachineModel" 91 "StageMachineModel" "tape" "[B" ∈ gtb := gtb_mem (i := 1075) (by decide +kernel) (by decide +kernel)
theorem wd_1020 : Cond.fieldLink "StageMachineModel" 246 "StageMachineModel" "taped" "I" ∈ gtb := gtb_mem (i := 1076) (by decide +kernel) (by decide +kernel)
theorem wd_1021 : Cond.fieldLink "StageMachineModel" 249 "StageMachineModel" "here" "I" ∈ gtb := gtb_mem (i := 1077) (by decide +kernel) (by decide +kernel)
theorem wd_1022 : Cond.fieldLink "StageMachineModel" 258 "StageMachineModel" "lines" "I" ∈ gtb := gtb_mem (i := 1078) (by decide +kernel) (by decide +kernel)
theorem wd_1023 : Cond.fieldLink "StageMachineModel" 95 "StageMachineModel" "lineWhat" "[I" ∈ gtb := gtb_mem (i := 1079) (by decide +kernel) (by decide +kernel)
theorem wd_1024 : Cond.fieldLink "StageMachineModel" 98 "StageMachineModel" "lineA" "[I" ∈ gtb := gtb_mem (i := 1080) (by decide +kernel) (by decide +kernel)
theorem wd_1025 : Cond.fieldLink "StageMachineModel" 101 "StageMachineModel" "lineB" "[I" ∈ gtb := gtb_mem (i := 1081) (by decide +kernel) (by decide +kernel)
theorem wd_1026 : Cond.fieldLink "StageMachineModel" 162 "StageMachineModel" "canBack" "Z" ∈ gtb := gtb_mem (i := 1082) (by decide +kernel) (by decide +kernel)
theorem wd_1027 : Cond.fieldLink "StageMachineModel" 104 "StageMachineModel" "keptAt" "[I" ∈ gtb := gtb_mem (i := 1083) (by decide +kernel) (by decide +kernel)
theorem wd_1028 : Cond.fieldLink "StageMachineModel" 107 "StageMachineModel" "keptThen" "[I" ∈ gtb := gtb_mem (i := 1084) (by decide +kernel) (by decide +kernel)
theorem wd_1029 : Cond.fieldLink "StageMachineModel" 110 "StageMachineModel" "keptDrum" "[I" ∈ gtb := gtb_mem (i := 1085) (by decide +kernel) (by decide +kernel)
theorem wd_1030 : Cond.fieldLink "StageMachineModel" 113 "StageMachineModel" "keptDone" "[I" ∈ gtb := gtb_mem (i := 1086) (by decide +kernel) (by decide +kernel)
theorem wd_1031 : Cond.fieldLink "StageMachineModel" 116 "StageMachineModel" "keptCounter" "[I" ∈ gtb := gtb_mem (i := 1087) (by decide +kernel) (by decide +kernel)
theorem wd_1032 : Cond.fieldLink "StageMachineModel" 265 "StageMachineModel" "keptShaft" "I" ∈ gtb := gtb_mem (i := 1088) (by decide +kernel) (by decide +kernel)
theorem wd_1033 : Cond.fieldLink "StageMachineModel" 268 "StageMachineModel" "keptWear" "I" ∈ gtb := gtb_mem (i := 1089) (by decide +kernel) (by decide +kernel)
theorem wd_1034 : Cond.fieldLink "StageMachineModel" 255 "StageMachineModel" "number" "I" ∈ gtb := gtb_mem (i := 1090) (by decide +kernel) (by decide +kernel)
theorem wd_1035 : Cond.fieldLink "StageMachineModel" 278 "StageMachineModel" "time" "I" ∈ gtb := gtb_mem (i := 1091) (by decide +kernel) (by decide +kernel)
theorem wd_1036 : Cond.fieldLink "StageMachineModel" 281 "StageMachineModel" "candles" "I" ∈ gtb := gtb_mem (i := 1092) (by decide +kernel) (by decide +kernel)
theorem wd_1037 : Cond.fieldLink "StageMachineModel" 119 "StageMachineModel" "burns" "[I" ∈ gtb := gtb_mem (i := 1093) (by decide +kernel) (by decide +kernel)
theorem wd_1038 : Cond.fieldLink "StageMachineModel" 122 "StageMachineModel" "litAt" "[I" ∈ gtb := gtb_mem (i := 1094) (by decide +kernel) (by decide +kernel)
theorem wd_1039 : Cond.fieldLink "StageMachineModel" 290 "StageMachineModel" "flats" "I" ∈ gtb := gtb_mem (i := 1095) (by decide +kernel) (by decide +kernel)
theorem wd_1040 : Cond.fieldLink "StageMachineModel" 125 "StageMachineModel" "flatSize" "[I" ∈ gtb := gtb_mem (i := 1096) (by decide +kernel) (by decide +kernel)
theorem wd_1041 : Cond.fieldLink "StageMachineModel" 128 "StageMachineModel" "flatPaint" "[I" ∈ gtb := gtb_mem (i := 1097) (by decide +kernel) (by decide +kernel)
theorem wd_1042 : Cond.fieldLink "StageMachineModel" 293 "StageMachineModel" "wants" "I" ∈ gtb := gtb_mem (i := 1098) (by decide +kernel) (by decide +kernel)
theorem wd_1043 : Cond.fieldLink "StageMachineModel" 131 "StageMachineModel" "wantSize" "[I" ∈ gtb := gtb_mem (i := 1099) (by decide +kernel) (by decide +kernel)
theorem wd_1044 : Cond.fieldLink "StageMachineModel" 134 "StageMachineModel" "wantPaint" "[I" ∈ gtb := gtb_mem (i := 1100) (by decide +kernel) (by decide +kernel)
theorem wd_1045 : Cond.fieldLink "StageMachineModel" 137 "StageMachineModel" "trial" "[I" ∈ gtb := gtb_mem (i := 1101) (by decide +kernel) (by decide +kernel)
theorem wd_1046 : Cond.fieldLink "StageMachineModel" 308 "StageMachineModel" "givenMany" "I" ∈ gtb := gtb_mem (i := 1102) (by decide +kernel) (by decide +kernel)
theorem wd_1047 : Cond.fieldLink "StageMachineModel" 140 "StageMachineModel" "given" "[I" ∈ gtb := gtb_mem (i := 1103) (by decide +kernel) (by decide +kernel)
theorem wd_1179 : Cond.arrayClass FieldType.boolean ∈ gtb := gtb_mem (i := 1235) (by decide +kernel) (by decide +kernel)
theorem wd_1180 : Cond.arrayClass FieldType.byte ∈ gtb := gtb_mem (i := 1236) (by decide +kernel) (by decide +kernel)
theorem wd_1181 : Cond.methodLink "StageMachineLaw" 17 ⟨"StageMachineModel", "thing", "(IIII)I"⟩ ∈ gtb := gtb_mem (i := 1237) (by decide +kernel) (by decide +kernel)
theorem wd_1182 : Cond.instanceMethod ⟨"StageMachineModel", "thing", "(IIII)I"⟩ ∈ gtb := gtb_mem (i := 1238) (by decide +kernel) (by decide +kernel)
theorem wd_1183 : Cond.selects "StageMachineModel" ⟨"StageMachineModel", "thing", "(IIII)I"⟩ ⟨"StageMachineModel", "thing", "(IIII)I"⟩ ∈ gtb := gtb_mem (i := 1239) (by decide +kernel) (by decide +kernel)
set_option maxRecDepth 30000 in
theorem wd_1184 : Cond.code ⟨"StageMachineModel", "thing", "(IIII)I"⟩ prog_14_method_9_code 8 (some .int) ∈ gtb := gtb_mem (i := 1240) rfl (by decide +kernel)
theorem wd_1185 : Cond.methodLink "StageMachineModel" 149 ⟨"StageMachineModel", "in", "(III)Z"⟩ ∈ gtb := gtb_mem (i := 1241) (by decide +kernel) (by decide +kernel)
theorem wd_1186 : Cond.static ⟨"StageMachineModel", "in", "(III)Z"⟩ ∈ gtb := gtb_mem (i := 1242) (by decide +kernel) (by decide +kernel)
set_option maxRecDepth 30000 in
theorem wd_1187 : Cond.code ⟨"StageMachineModel", "in", "(III)Z"⟩ prog_14_method_3_code 3 (some .boolean) ∈ gtb := gtb_mem (i := 1243) rfl (by decide +kernel)
theorem wd_1188 : Cond.methodLink "StageMachineLaw" 22 ⟨"StageMachineModel", "ofThing", "(II)I"⟩ ∈ gtb := gtb_mem (i := 1244) (by decide +kernel) (by decide +kernel)
theorem wd_1189 : Cond.instanceMethod ⟨"StageMachineModel", "ofThing", "(II)I"⟩ ∈ gtb := gtb_mem (i := 1245) (by decide +kernel) (by decide +kernel)
theorem wd_1190 : Cond.selects "StageMachineModel" ⟨"StageMachineModel", "ofThing", "(II)I"⟩ ⟨"StageMachineModel", "ofThing", "(II)I"⟩ ∈ gtb := gtb_mem (i := 1246) (by decide +kernel) (by decide +kernel)
set_option maxRecDepth 30000 in
theorem wd_1191 : Cond.code ⟨"StageMachineModel", "ofThing", "(II)I"⟩ prog_14_method_11_code 3 (some .int) ∈ gtb := gtb_mem (i := 1247) rfl (by decide +kernel)
theorem wd_1192 : Cond.methodLink "StageMachineModel" 166 ⟨"StageMachineModel", "isThing", "(I)Z"⟩ ∈ gtb := gtb_mem (i := 1248) (by decide +kernel) (by decide +kernel)
theorem wd_1194 : Cond.instanceMethod ⟨"StageMachineModel", "isThing", "(I)Z"⟩ ∈ gtb := gtb_mem (i := 1250) (by decide +kernel) (by decide +kernel)
set_option maxRecDepth 30000 in
theorem wd_1195 : Cond.code ⟨"StageMachineModel", "isThing", "(I)Z"⟩ prog_14_method_4_code 2 (some .boolean) ∈ gtb := gtb_mem (i := 1251) rfl (by decide +kernel)
theorem wd_1196 : Cond.methodLink "StageMachineModel" 170 ⟨"StageMachineModel", "tiedTo", "(I)I"⟩ ∈ gtb := gtb_mem (i := 1252) (by decide +kernel) (by decide +kernel)
theorem wd_1198 : Cond.instanceMethod ⟨"StageMachineModel", "tiedTo", "(I)I"⟩ ∈ gtb := gtb_mem (i := 1254) (by decide +kernel) (by decide +kernel)
set_option maxRecDepth 30000 in
theorem wd_1199 : Cond.code ⟨"StageMachineModel", "tiedTo", "(I)I"⟩ prog_14_method_10_code 3 (some .int) ∈ gtb := gtb_mem (i := 1255) rfl (by decide +kernel)
theorem wd_1200 : Cond.methodLink "StageMachineLaw" 27 ⟨"StageMachineModel", "on", "(I)I"⟩ ∈ gtb := gtb_mem (i := 1256) (by decide +kernel) (by decide +kernel)
theorem wd_1201 : Cond.instanceMethod ⟨"StageMachineModel", "on", "(I)I"⟩ ∈ gtb := gtb_mem (i := 1257) (by decide +kernel) (by decide +kernel)
theorem wd_1202 : Cond.selects "StageMachineModel" ⟨"StageMachineModel", "on", "(I)I"⟩ ⟨"StageMachineModel", "on", "(I)I"⟩ ∈ gtb := gtb_mem (i := 1258) (by decide +kernel) (by decide +kernel)
set_option maxRecDepth 30000 in
theorem wd_1203 : Cond.code ⟨"StageMachineModel", "on", "(I)I"⟩ prog_14_method_12_code 3 (some .int) ∈ gtb := gtb_mem (i := 1259) rfl (by decide +kernel)
theorem wd_1204 : Cond.methodLink "StageMachineLaw" 31 ⟨"StageMachineModel", "drum", "(I)I"⟩ ∈ gtb := gtb_mem (i := 1260) (by decide +kernel) (by decide +kernel)
theorem wd_1205 : Cond.instanceMethod ⟨"StageMachineModel", "drum", "(I)I"⟩ ∈ gtb := gtb_mem (i := 1261) (by decide +kernel) (by decide +kernel)
theorem wd_1206 : Cond.selects "StageMachineModel" ⟨"StageMachineModel", "drum", "(I)I"⟩ ⟨"StageMachineModel", "drum", "(I)I"⟩ ∈ gtb := gtb_mem (i := 1262) (by decide +kernel) (by decide +kernel)
set_option maxRecDepth 30000 in
theorem wd_1207 : Cond.code ⟨"StageMachineModel", "drum", "(I)I"⟩ prog_14_method_13_code 2 (some .int) ∈ gtb := gtb_mem (i := 1263) rfl (by decide +kernel)
theorem wd_1208 : Cond.methodLink "StageMachineLaw" 36 ⟨"StageMachineModel", "rope", "(III)I"⟩ ∈ gtb := gtb_mem (i := 1264) (by decide +kernel) (by decide +kernel)
theorem wd_1209 : Cond.instanceMethod ⟨"StageMachineModel", "rope", "(III)I"⟩ ∈ gtb := gtb_mem (i := 1265) (by decide +kernel) (by decide +kernel)
theorem wd_1210 : Cond.selects "StageMachineModel" ⟨"StageMachineModel", "rope", "(III)I"⟩ ⟨"StageMachineModel", "rope", "(III)I"⟩ ∈ gtb := gtb_mem (i := 1266) (by decide +kernel) (by decide +kernel)
set_option maxRecDepth 30000 in
theorem wd_1211 : Cond.code ⟨"StageMachineModel", "rope", "(III)I"⟩ prog_14_method_14_code 4 (some .int) ∈ gtb := gtb_mem (i := 1267) rfl (by decide +kernel)
theorem wd_1212 : Cond.methodLink "StageMachineLaw" 40 ⟨"StageMachineModel", "ofRope", "(II)I"⟩ ∈ gtb := gtb_mem (i := 1268) (by decide +kernel) (by decide +kernel)
theorem wd_1213 : Cond.instanceMethod ⟨"StageMachineModel", "ofRope", "(II)I"⟩ ∈ gtb := gtb_mem (i := 1269) (by decide +kernel) (by decide +kernel)
theorem wd_1214 : Cond.selects "StageMachineModel" ⟨"StageMachineModel", "ofRope", "(II)I"⟩ ⟨"StageMachineModel", "ofRope", "(II)I"⟩ ∈ gtb := gtb_mem (i := 1270) (by decide +kernel) (by decide +kernel)
set_option maxRecDepth 30000 in
theorem wd_1215 : Cond.code ⟨"StageMachineModel", "ofRope", "(II)I"⟩ prog_14_method_16_code 3 (some .int) ∈ gtb := gtb_mem (i := 1271) rfl (by decide +kernel)
theorem wd_1216 : Cond.methodLink "StageMachineModel" 174 ⟨"StageMachineModel", "isRope", "(I)Z"⟩ ∈ gtb := gtb_mem (i := 1272) (by decide +kernel) (by decide +kernel)
theorem wd_1218 : Cond.instanceMethod ⟨"StageMachineModel", "isRope", "(I)Z"⟩ ∈ gtb := gtb_mem (i := 1274) (by decide +kernel) (by decide +kernel)
set_option maxRecDepth 30000 in
theorem wd_1219 : Cond.code ⟨"StageMachineModel", "isRope", "(I)Z"⟩ prog_14_method_5_code 2 (some .boolean) ∈ gtb := gtb_mem (i := 1275) rfl (by decide +kernel)
theorem wd_1220 : Cond.constant "StageMachineModel" 177 (-2000000000) ∈ gtb := gtb_mem (i := 1276) (by decide +kernel) (by decide +kernel)
theorem wd_1221 : Cond.methodLink "StageMachineModel" 178 ⟨"StageMachineModel", "load", "(I)I"⟩ ∈ gtb := gtb_mem (i := 1277) (by decide +kernel) (by decide +kernel)
theorem wd_1223 : Cond.instanceMethod ⟨"StageMachineModel", "load", "(I)I"⟩ ∈ gtb := gtb_mem (i := 1279) (by decide +kernel) (by decide +kernel)
set_option maxRecDepth 30000 in
theorem wd_1224 : Cond.code ⟨"StageMachineModel", "load", "(I)I"⟩ prog_14_method_15_code 2 (some .int) ∈ gtb := gtb_mem (i := 1280) rfl (by decide +kernel)
theorem wd_1225 : Cond.methodLink "StageMachineLaw" 44 ⟨"StageMachineModel", "tie", "(II)I"⟩ ∈ gtb := gtb_mem (i := 1281) (by decide +kernel) (by decide +kernel)
theorem wd_1226 : Cond.instanceMethod ⟨"StageMachineModel", "tie", "(II)I"⟩ ∈ gtb := gtb_mem (i := 1282) (by decide +kernel) (by decide +kernel)
theorem wd_1227 : Cond.selects "StageMachineModel" ⟨"StageMachineModel", "tie", "(II)I"⟩ ⟨"StageMachineModel", "tie", "(II)I"⟩ ∈ gtb := gtb_mem (i := 1283) (by decide +kernel) (by decide +kernel)
set_option maxRecDepth 30000 in
theorem wd_1228 : Cond.code ⟨"StageMachineModel", "tie", "(II)I"⟩ prog_14_method_18_code 4 (some .int) ∈ gtb := gtb_mem (i := 1284) rfl (by decide +kernel)
theorem wd_1229 : Cond.methodLink "StageMachineModel" 184 ⟨"StageMachineModel", "tieNow", "(II)I"⟩ ∈ gtb := gtb_mem (i := 1285) (by decide +kernel) (by decide +kernel)
theorem wd_1231 : Cond.instanceMethod ⟨"StageMachineModel", "tieNow", "(II)I"⟩ ∈ gtb := gtb_mem (i := 1287) (by decide +kernel) (by decide +kernel)
set_option maxRecDepth 30000 in
theorem wd_1232 : Cond.code ⟨"StageMachineModel", "tieNow", "(II)I"⟩ prog_14_method_17_code 3 (some .int) ∈ gtb := gtb_mem (i := 1288) rfl (by decide +kernel)
theorem wd_1233 : Cond.methodLink "StageMachineModel" 181 ⟨"StageMachineModel", "isDrum", "(I)Z"⟩ ∈ gtb := gtb_mem (i := 1289) (by decide +kernel) (by decide +kernel)
theorem wd_1235 : Cond.instanceMethod ⟨"StageMachineModel", "isDrum", "(I)Z"⟩ ∈ gtb := gtb_mem (i := 1291) (by decide +kernel) (by decide +kernel)
set_option maxRecDepth 30000 in
theorem wd_1236 : Cond.code ⟨"StageMachineModel", "isDrum", "(I)Z"⟩ prog_14_method_6_code 2 (some .boolean) ∈ gtb := gtb_mem (i := 1292) rfl (by decide +kernel)
theorem wd_1237 : Cond.methodLink "StageMachineLaw" 48 ⟨"StageMachineModel", "untie", "(I)I"⟩ ∈ gtb := gtb_mem (i := 1293) (by decide +kernel) (by decide +kernel)
theorem wd_1238 : Cond.instanceMethod ⟨"StageMachineModel", "untie", "(I)I"⟩ ∈ gtb := gtb_mem (i := 1294) (by decide +kernel) (by decide +kernel)
theorem wd_1239 : Cond.selects "StageMachineModel" ⟨"StageMachineModel", "untie", "(I)I"⟩ ⟨"StageMachineModel", "untie", "(I)I"⟩ ∈ gtb := gtb_mem (i := 1295) (by decide +kernel) (by decide +kernel)
set_option maxRecDepth 30000 in
theorem wd_1240 : Cond.code ⟨"StageMachineModel", "untie", "(I)I"⟩ prog_14_method_20_code 3 (some .int) ∈ gtb := gtb_mem (i := 1296) rfl (by decide +kernel)
theorem wd_1241 : Cond.methodLink "StageMachineModel" 188 ⟨"StageMachineModel", "untieNow", "(I)I"⟩ ∈ gtb := gtb_mem (i := 1297) (by decide +kernel) (by decide +kernel)
theorem wd_1243 : Cond.instanceMethod ⟨"StageMachineModel", "untieNow", "(I)I"⟩ ∈ gtb := gtb_mem (i := 1299) (by decide +kernel) (by decide +kernel)
set_option maxRecDepth 30000 in
theorem wd_1244 : Cond.code ⟨"StageMachineModel", "untieNow", "(I)I"⟩ prog_14_method_19_code 2 (some .int) ∈ gtb := gtb_mem (i := 1300) rfl (by decide +kernel)
theorem wd_1245 : Cond.methodLink "StageMachineLaw" 52 ⟨"StageMachineModel", "weight", "(II)I"⟩ ∈ gtb := gtb_mem (i := 1301) (by decide +kernel) (by decide +kernel)
theorem wd_1246 : Cond.instanceMethod ⟨"StageMachineModel", "weight", "(II)I"⟩ ∈ gtb := gtb_mem (i := 1302) (by decide +kernel) (by decide +kernel)
theorem wd_1247 : Cond.selects "StageMachineModel" ⟨"StageMachineModel", "weight", "(II)I"⟩ ⟨"StageMachineModel", "weight", "(II)I"⟩ ∈ gtb := gtb_mem (i := 1303) (by decide +kernel) (by decide +kernel)
set_option maxRecDepth 30000 in
theorem wd_1248 : Cond.code ⟨"StageMachineModel", "weight", "(II)I"⟩ prog_14_method_22_code 4 (some .int) ∈ gtb := gtb_mem (i := 1304) rfl (by decide +kernel)
theorem wd_1249 : Cond.methodLink "StageMachineModel" 191 ⟨"StageMachineModel", "weighNow", "(II)I"⟩ ∈ gtb := gtb_mem (i := 1305) (by decide +kernel) (by decide +kernel)
theorem wd_1251 : Cond.instanceMethod ⟨"StageMachineModel", "weighNow", "(II)I"⟩ ∈ gtb := gtb_mem (i := 1307) (by decide +kernel) (by decide +kernel)
set_option maxRecDepth 30000 in
theorem wd_1252 : Cond.code ⟨"StageMachineModel", "weighNow", "(II)I"⟩ prog_14_method_21_code 4 (some .int) ∈ gtb := gtb_mem (i := 1308) rfl (by decide +kernel)
theorem wd_1253 : Cond.methodLink "StageMachineLaw" 56 ⟨"StageMachineModel", "bound", "(I)I"⟩ ∈ gtb := gtb_mem (i := 1309) (by decide +kernel) (by decide +kernel)
theorem wd_1254 : Cond.instanceMethod ⟨"StageMachineModel", "bound", "(I)I"⟩ ∈ gtb := gtb_mem (i := 1310) (by decide +kernel) (by decide +kernel)
theorem wd_1255 : Cond.selects "StageMachineModel" ⟨"StageMachineModel", "bound", "(I)I"⟩ ⟨"StageMachineModel", "bound", "(I)I"⟩ ∈ gtb := gtb_mem (i := 1311) (by decide +kernel) (by decide +kernel)
set_option maxRecDepth 30000 in
theorem wd_1256 : Cond.code ⟨"StageMachineModel", "bound", "(I)I"⟩ prog_14_method_23_code 3 (some .int) ∈ gtb := gtb_mem (i := 1312) rfl (by decide +kernel)
theorem wd_1257 : Cond.methodLink "StageMachineLaw" 61 ⟨"StageMachineModel", "pull", "()I"⟩ ∈ gtb := gtb_mem (i := 1313) (by decide +kernel) (by decide +kernel)
theorem wd_1258 : Cond.instanceMethod ⟨"StageMachineModel", "pull", "()I"⟩ ∈ gtb := gtb_mem (i := 1314) (by decide +kernel) (by decide +kernel)
theorem wd_1259 : Cond.selects "StageMachineModel" ⟨"StageMachineModel", "pull", "()I"⟩ ⟨"StageMachineModel", "pull", "()I"⟩ ∈ gtb := gtb_mem (i := 1315) (by decide +kernel) (by decide +kernel)
set_option maxRecDepth 30000 in
theorem wd_1260 : Cond.code ⟨"StageMachineModel", "pull", "()I"⟩ prog_14_method_24_code 4 (some .int) ∈ gtb := gtb_mem (i := 1316) rfl (by decide +kernel)
theorem wd_1261 : Cond.methodLink "StageMachineLaw" 65 ⟨"StageMachineModel", "turn", "(I)I"⟩ ∈ gtb := gtb_mem (i := 1317) (by decide +kernel) (by decide +kernel)
theorem wd_1262 : Cond.instanceMethod ⟨"StageMachineModel", "turn", "(I)I"⟩ ∈ gtb := gtb_mem (i := 1318) (by decide +kernel) (by decide +kernel)
theorem wd_1263 : Cond.selects "StageMachineModel" ⟨"StageMachineModel", "turn", "(I)I"⟩ ⟨"StageMachineModel", "turn", "(I)I"⟩ ∈ gtb := gtb_mem (i := 1319) (by decide +kernel) (by decide +kernel)
set_option maxRecDepth 30000 in
theorem wd_1264 : Cond.code ⟨"StageMachineModel", "turn", "(I)I"⟩ prog_14_method_29_code 3 (some .int) ∈ gtb := gtb_mem (i := 1320) rfl (by decide +kernel)
theorem wd_1265 : Cond.methodLink "StageMachineModel" 217 ⟨"StageMachineModel", "isTurn", "(I)Z"⟩ ∈ gtb := gtb_mem (i := 1321) (by decide +kernel) (by decide +kernel)
theorem wd_1266 : Cond.static ⟨"StageMachineModel", "isTurn", "(I)Z"⟩ ∈ gtb := gtb_mem (i := 1322) (by decide +kernel) (by decide +kernel)
set_option maxRecDepth 30000 in
theorem wd_1267 : Cond.code ⟨"StageMachineModel", "isTurn", "(I)Z"⟩ prog_14_method_28_code 1 (some .boolean) ∈ gtb := gtb_mem (i := 1323) rfl (by decide +kernel)
theorem wd_1268 : Cond.methodLink "StageMachineModel" 220 ⟨"StageMachineModel", "turnNow", "(I)I"⟩ ∈ gtb := gtb_mem (i := 1324) (by decide +kernel) (by decide +kernel)
theorem wd_1270 : Cond.instanceMethod ⟨"StageMachineModel", "turnNow", "(I)I"⟩ ∈ gtb := gtb_mem (i := 1326) (by decide +kernel) (by decide +kernel)
set_option maxRecDepth 30000 in
theorem wd_1271 : Cond.code ⟨"StageMachineModel", "turnNow", "(I)I"⟩ prog_14_method_27_code 5 (some .int) ∈ gtb := gtb_mem (i := 1327) rfl (by decide +kernel)
theorem wd_1272 : Cond.methodLink "StageMachineModel" 204 ⟨"StageMachineModel", "place", "(I)V"⟩ ∈ gtb := gtb_mem (i := 1328) (by decide +kernel) (by decide +kernel)
theorem wd_1274 : Cond.instanceMethod ⟨"StageMachineModel", "place", "(I)V"⟩ ∈ gtb := gtb_mem (i := 1330) (by decide +kernel) (by decide +kernel)
set_option maxRecDepth 30000 in
theorem wd_1275 : Cond.code ⟨"StageMachineModel", "place", "(I)V"⟩ prog_14_method_25_code 4 none ∈ gtb := gtb_mem (i := 1331) rfl (by decide +kernel)
theorem wd_1276 : Cond.methodLink "StageMachineModel" 208 ⟨"StageMachineModel", "find", "()V"⟩ ∈ gtb := gtb_mem (i := 1332) (by decide +kernel) (by decide +kernel)
theorem wd_1278 : Cond.instanceMethod ⟨"StageMachineModel", "find", "()V"⟩ ∈ gtb := gtb_mem (i := 1334) (by decide +kernel) (by decide +kernel)
set_option maxRecDepth 30000 in
theorem wd_1279 : Cond.code ⟨"StageMachineModel", "find", "()V"⟩ prog_14_method_26_code 2 none ∈ gtb := gtb_mem (i := 1335) rfl (by decide +kernel)
theorem wd_1280 : Cond.methodLink "StageMachineModel" 197 ⟨"StageMachineModel", "other", "(II)I"⟩ ∈ gtb := gtb_mem (i := 1336) (by decide +kernel) (by decide +kernel)
theorem wd_1282 : Cond.instanceMethod ⟨"StageMachineModel", "other", "(II)I"⟩ ∈ gtb := gtb_mem (i := 1338) (by decide +kernel) (by decide +kernel)
set_option maxRecDepth 30000 in
theorem wd_1283 : Cond.code ⟨"StageMachineModel", "other", "(II)I"⟩ prog_14_method_8_code 4 (some .int) ∈ gtb := gtb_mem (i := 1339) rfl (by decide +kernel)
theorem wd_1284 : Cond.methodLink "StageMachineModel" 159 ⟨"StageMachineModel", "meets", "(III)Z"⟩ ∈ gtb := gtb_mem (i := 1340) (by decide +kernel) (by decide +kernel)
theorem wd_1286 : Cond.instanceMethod ⟨"StageMachineModel", "meets", "(III)Z"⟩ ∈ gtb := gtb_mem (i := 1342) (by decide +kernel) (by decide +kernel)
set_option maxRecDepth 30000 in
theorem wd_1287 : Cond.code ⟨"StageMachineModel", "meets", "(III)Z"⟩ prog_14_method_7_code 4 (some .boolean) ∈ gtb := gtb_mem (i := 1343) rfl (by decide +kernel)
theorem wd_1288 : Cond.methodLink "StageMachineModel" 200 ⟨"StageMachineModel", "pull", "()I"⟩ ∈ gtb := gtb_mem (i := 1344) (by decide +kernel) (by decide +kernel)
theorem wd_1289 : Cond.methodLink "StageMachineLaw" 69 ⟨"StageMachineModel", "stopped", "(I)I"⟩ ∈ gtb := gtb_mem (i := 1345) (by decide +kernel) (by decide +kernel)
theorem wd_1290 : Cond.instanceMethod ⟨"StageMachineModel", "stopped", "(I)I"⟩ ∈ gtb := gtb_mem (i := 1346) (by decide +kernel) (by decide +kernel)
theorem wd_1291 : Cond.selects "StageMachineModel" ⟨"StageMachineModel", "stopped", "(I)I"⟩ ⟨"StageMachineModel", "stopped", "(I)I"⟩ ∈ gtb := gtb_mem (i := 1347) (by decide +kernel) (by decide +kernel)
set_option maxRecDepth 30000 in
theorem wd_1292 : Cond.code ⟨"StageMachineModel", "stopped", "(I)I"⟩ prog_14_method_30_code 2 (some .int) ∈ gtb := gtb_mem (i := 1348) rfl (by decide +kernel)
theorem wd_1293 : Cond.methodLink "StageMachineLaw" 73 ⟨"StageMachineModel", "free", "(I)I"⟩ ∈ gtb := gtb_mem (i := 1349) (by decide +kernel) (by decide +kernel)
theorem wd_1294 : Cond.instanceMethod ⟨"StageMachineModel", "free", "(I)I"⟩ ∈ gtb := gtb_mem (i := 1350) (by decide +kernel) (by decide +kernel)
theorem wd_1295 : Cond.selects "StageMachineModel" ⟨"StageMachineModel", "free", "(I)I"⟩ ⟨"StageMachineModel", "free", "(I)I"⟩ ∈ gtb := gtb_mem (i := 1351) (by decide +kernel) (by decide +kernel)
set_option maxRecDepth 30000 in
theorem wd_1296 : Cond.code ⟨"StageMachineModel", "free", "(I)I"⟩ prog_14_method_31_code 9 (some .int) ∈ gtb := gtb_mem (i := 1352) rfl (by decide +kernel)
theorem wd_1297 : Cond.methodLink "StageMachineLaw" 81 ⟨"StageMachineModel", "hold", "(I)I"⟩ ∈ gtb := gtb_mem (i := 1353) (by decide +kernel) (by decide +kernel)
theorem wd_1298 : Cond.instanceMethod ⟨"StageMachineModel", "hold", "(I)I"⟩ ∈ gtb := gtb_mem (i := 1354) (by decide +kernel) (by decide +kernel)
theorem wd_1299 : Cond.selects "StageMachineModel" ⟨"StageMachineModel", "hold", "(I)I"⟩ ⟨"StageMachineModel", "hold", "(I)I"⟩ ∈ gtb := gtb_mem (i := 1355) (by decide +kernel) (by decide +kernel)
set_option maxRecDepth 30000 in
theorem wd_1300 : Cond.code ⟨"StageMachineModel", "hold", "(I)I"⟩ prog_14_method_33_code 3 (some .int) ∈ gtb := gtb_mem (i := 1356) rfl (by decide +kernel)
theorem wd_1301 : Cond.methodLink "StageMachineModel" 223 ⟨"StageMachineModel", "isCaught", "(II)Z"⟩ ∈ gtb := gtb_mem (i := 1357) (by decide +kernel) (by decide +kernel)
theorem wd_1303 : Cond.instanceMethod ⟨"StageMachineModel", "isCaught", "(II)Z"⟩ ∈ gtb := gtb_mem (i := 1359) (by decide +kernel) (by decide +kernel)
set_option maxRecDepth 30000 in
theorem wd_1304 : Cond.code ⟨"StageMachineModel", "isCaught", "(II)Z"⟩ prog_14_method_32_code 4 (some .boolean) ∈ gtb := gtb_mem (i := 1360) rfl (by decide +kernel)
theorem wd_1305 : Cond.methodLink "StageMachineLaw" 77 ⟨"StageMachineModel", "snap", "(I)I"⟩ ∈ gtb := gtb_mem (i := 1361) (by decide +kernel) (by decide +kernel)
theorem wd_1306 : Cond.instanceMethod ⟨"StageMachineModel", "snap", "(I)I"⟩ ∈ gtb := gtb_mem (i := 1362) (by decide +kernel) (by decide +kernel)
theorem wd_1307 : Cond.selects "StageMachineModel" ⟨"StageMachineModel", "snap", "(I)I"⟩ ⟨"StageMachineModel", "snap", "(I)I"⟩ ∈ gtb := gtb_mem (i := 1363) (by decide +kernel) (by decide +kernel)
set_option maxRecDepth 30000 in
theorem wd_1308 : Cond.code ⟨"StageMachineModel", "snap", "(I)I"⟩ prog_14_method_34_code 5 (some .int) ∈ gtb := gtb_mem (i := 1364) rfl (by decide +kernel)
theorem wd_1309 : Cond.methodLink "StageMachineLaw" 85 ⟨"StageMachineModel", "scene", "(III)I"⟩ ∈ gtb := gtb_mem (i := 1365) (by decide +kernel) (by decide +kernel)
theorem wd_1310 : Cond.instanceMethod ⟨"StageMachineModel", "scene", "(III)I"⟩ ∈ gtb := gtb_mem (i := 1366) (by decide +kernel) (by decide +kernel)
theorem wd_1311 : Cond.selects "StageMachineModel" ⟨"StageMachineModel", "scene", "(III)I"⟩ ⟨"StageMachineModel", "scene", "(III)I"⟩ ∈ gtb := gtb_mem (i := 1367) (by decide +kernel) (by decide +kernel)
set_option maxRecDepth 30000 in
theorem wd_1312 : Cond.code ⟨"StageMachineModel", "scene", "(III)I"⟩ prog_14_method_35_code 5 (some .int) ∈ gtb := gtb_mem (i := 1368) rfl (by decide +kernel)
theorem wd_1313 : Cond.methodLink "StageMachineLaw" 89 ⟨"StageMachineModel", "change", "(II)I"⟩ ∈ gtb := gtb_mem (i := 1369) (by decide +kernel) (by decide +kernel)
theorem wd_1314 : Cond.instanceMethod ⟨"StageMachineModel", "change", "(II)I"⟩ ∈ gtb := gtb_mem (i := 1370) (by decide +kernel) (by decide +kernel)
theorem wd_1315 : Cond.selects "StageMachineModel" ⟨"StageMachineModel", "change", "(II)I"⟩ ⟨"StageMachineModel", "change", "(II)I"⟩ ∈ gtb := gtb_mem (i := 1371) (by decide +kernel) (by decide +kernel)
set_option maxRecDepth 30000 in
theorem wd_1316 : Cond.code ⟨"StageMachineModel", "change", "(II)I"⟩ prog_14_method_38_code 6 (some .int) ∈ gtb := gtb_mem (i := 1372) rfl (by decide +kernel)
theorem wd_1317 : Cond.methodLink "StageMachineModel" 236 ⟨"StageMachineModel", "brings", "(III)Z"⟩ ∈ gtb := gtb_mem (i := 1373) (by decide +kernel) (by decide +kernel)
theorem wd_1319 : Cond.instanceMethod ⟨"StageMachineModel", "brings", "(III)Z"⟩ ∈ gtb := gtb_mem (i := 1375) (by decide +kernel) (by decide +kernel)
set_option maxRecDepth 30000 in
theorem wd_1320 : Cond.code ⟨"StageMachineModel", "brings", "(III)Z"⟩ prog_14_method_36_code 6 (some .boolean) ∈ gtb := gtb_mem (i := 1376) rfl (by decide +kernel)
theorem wd_1321 : Cond.methodLink "StageMachineModel" 239 ⟨"StageMachineModel", "workOf", "(I)I"⟩ ∈ gtb := gtb_mem (i := 1377) (by decide +kernel) (by decide +kernel)
theorem wd_1323 : Cond.instanceMethod ⟨"StageMachineModel", "workOf", "(I)I"⟩ ∈ gtb := gtb_mem (i := 1379) (by decide +kernel) (by decide +kernel)
set_option maxRecDepth 30000 in
theorem wd_1324 : Cond.code ⟨"StageMachineModel", "workOf", "(I)I"⟩ prog_14_method_37_code 3 (some .int) ∈ gtb := gtb_mem (i := 1380) rfl (by decide +kernel)
theorem wd_1325 : Cond.methodLink "StageMachineLaw" 93 ⟨"StageMachineModel", "told", "(II)I"⟩ ∈ gtb := gtb_mem (i := 1381) (by decide +kernel) (by decide +kernel)
theorem wd_1326 : Cond.instanceMethod ⟨"StageMachineModel", "told", "(II)I"⟩ ∈ gtb := gtb_mem (i := 1382) (by decide +kernel) (by decide +kernel)
theorem wd_1327 : Cond.selects "StageMachineModel" ⟨"StageMachineModel", "told", "(II)I"⟩ ⟨"StageMachineModel", "told", "(II)I"⟩ ∈ gtb := gtb_mem (i := 1383) (by decide +kernel) (by decide +kernel)
set_option maxRecDepth 30000 in
theorem wd_1328 : Cond.code ⟨"StageMachineModel", "told", "(II)I"⟩ prog_14_method_39_code 3 (some .int) ∈ gtb := gtb_mem (i := 1384) rfl (by decide +kernel)
theorem wd_1329 : Cond.methodLink "StageMachineLaw" 97 ⟨"StageMachineModel", "work", "(I)I"⟩ ∈ gtb := gtb_mem (i := 1385) (by decide +kernel) (by decide +kernel)
theorem wd_1330 : Cond.instanceMethod ⟨"StageMachineModel", "work", "(I)I"⟩ ∈ gtb := gtb_mem (i := 1386) (by decide +kernel) (by decide +kernel)
theorem wd_1331 : Cond.selects "StageMachineModel" ⟨"StageMachineModel", "work", "(I)I"⟩ ⟨"StageMachineModel", "work", "(I)I"⟩ ∈ gtb := gtb_mem (i := 1387) (by decide +kernel) (by decide +kernel)
set_option maxRecDepth 30000 in
theorem wd_1332 : Cond.code ⟨"StageMachineModel", "work", "(I)I"⟩ prog_14_method_40_code 4 (some .int) ∈ gtb := gtb_mem (i := 1388) rfl (by decide +kernel)
theorem wd_1333 : Cond.methodLink "StageMachineLaw" 101 ⟨"StageMachineModel", "men", "(I)I"⟩ ∈ gtb := gtb_mem (i := 1389) (by decide +kernel) (by decide +kernel)
theorem wd_1334 : Cond.instanceMethod ⟨"StageMachineModel", "men", "(I)I"⟩ ∈ gtb := gtb_mem (i := 1390) (by decide +kernel) (by decide +kernel)
theorem wd_1335 : Cond.selects "StageMachineModel" ⟨"StageMachineModel", "men", "(I)I"⟩ ⟨"StageMachineModel", "men", "(I)I"⟩ ∈ gtb := gtb_mem (i := 1391) (by decide +kernel) (by decide +kernel)
set_option maxRecDepth 30000 in
theorem wd_1336 : Cond.code ⟨"StageMachineModel", "men", "(I)I"⟩ prog_14_method_42_code 6 (some .int) ∈ gtb := gtb_mem (i := 1392) rfl (by decide +kernel)
theorem wd_1337 : Cond.methodLink "StageMachineModel" 242 ⟨"StageMachineModel", "menFor", "(IIII)I"⟩ ∈ gtb := gtb_mem (i := 1393) (by decide +kernel) (by decide +kernel)
theorem wd_1339 : Cond.instanceMethod ⟨"StageMachineModel", "menFor", "(IIII)I"⟩ ∈ gtb := gtb_mem (i := 1395) (by decide +kernel) (by decide +kernel)
set_option maxRecDepth 30000 in
theorem wd_1340 : Cond.code ⟨"StageMachineModel", "menFor", "(IIII)I"⟩ prog_14_method_41_code 13 (some .int) ∈ gtb := gtb_mem (i := 1396) rfl (by decide +kernel)
theorem wd_1341 : Cond.methodLink "StageMachineLaw" 105 ⟨"StageMachineModel", "feed", "(II)I"⟩ ∈ gtb := gtb_mem (i := 1397) (by decide +kernel) (by decide +kernel)
theorem wd_1342 : Cond.instanceMethod ⟨"StageMachineModel", "feed", "(II)I"⟩ ∈ gtb := gtb_mem (i := 1398) (by decide +kernel) (by decide +kernel)
theorem wd_1343 : Cond.selects "StageMachineModel" ⟨"StageMachineModel", "feed", "(II)I"⟩ ⟨"StageMachineModel", "feed", "(II)I"⟩ ∈ gtb := gtb_mem (i := 1399) (by decide +kernel) (by decide +kernel)
set_option maxRecDepth 30000 in
theorem wd_1344 : Cond.code ⟨"StageMachineModel", "feed", "(II)I"⟩ prog_14_method_43_code 4 (some .int) ∈ gtb := gtb_mem (i := 1400) rfl (by decide +kernel)
theorem wd_1345 : Cond.methodLink "StageMachineLaw" 109 ⟨"StageMachineModel", "play", "()I"⟩ ∈ gtb := gtb_mem (i := 1401) (by decide +kernel) (by decide +kernel)
theorem wd_1346 : Cond.instanceMethod ⟨"StageMachineModel", "play", "()I"⟩ ∈ gtb := gtb_mem (i := 1402) (by decide +kernel) (by decide +kernel)
theorem wd_1347 : Cond.selects "StageMachineModel" ⟨"StageMachineModel", "play", "()I"⟩ ⟨"StageMachineModel", "play", "()I"⟩ ∈ gtb := gtb_mem (i := 1403) (by decide +kernel) (by decide +kernel)
set_option maxRecDepth 30000 in
theorem wd_1348 : Cond.code ⟨"StageMachineModel", "play", "()I"⟩ prog_14_method_48_code 5 (some .int) ∈ gtb := gtb_mem (i := 1404) rfl (by decide +kernel)
theorem wd_1349 : Cond.methodLink "StageMachineModel" 271 ⟨"StageMachineModel", "line", "()Z"⟩ ∈ gtb := gtb_mem (i := 1405) (by decide +kernel) (by decide +kernel)
theorem wd_1351 : Cond.instanceMethod ⟨"StageMachineModel", "line", "()Z"⟩ ∈ gtb := gtb_mem (i := 1407) (by decide +kernel) (by decide +kernel)
set_option maxRecDepth 30000 in
theorem wd_1352 : Cond.code ⟨"StageMachineModel", "line", "()Z"⟩ prog_14_method_46_code 2 (some .boolean) ∈ gtb := gtb_mem (i := 1408) rfl (by decide +kernel)
theorem wd_1353 : Cond.methodLink "StageMachineModel" 252 ⟨"StageMachineModel", "look", "()I"⟩ ∈ gtb := gtb_mem (i := 1409) (by decide +kernel) (by decide +kernel)
theorem wd_1355 : Cond.instanceMethod ⟨"StageMachineModel", "look", "()I"⟩ ∈ gtb := gtb_mem (i := 1411) (by decide +kernel) (by decide +kernel)
set_option maxRecDepth 30000 in
theorem wd_1356 : Cond.code ⟨"StageMachineModel", "look", "()I"⟩ prog_14_method_44_code 1 (some .int) ∈ gtb := gtb_mem (i := 1412) rfl (by decide +kernel)
theorem wd_1357 : Cond.methodLink "StageMachineModel" 261 ⟨"StageMachineModel", "takes", "(Z)Z"⟩ ∈ gtb := gtb_mem (i := 1413) (by decide +kernel) (by decide +kernel)
theorem wd_1359 : Cond.instanceMethod ⟨"StageMachineModel", "takes", "(Z)Z"⟩ ∈ gtb := gtb_mem (i := 1415) (by decide +kernel) (by decide +kernel)
set_option maxRecDepth 30000 in
theorem wd_1360 : Cond.code ⟨"StageMachineModel", "takes", "(Z)Z"⟩ prog_14_method_45_code 4 (some .boolean) ∈ gtb := gtb_mem (i := 1416) rfl (by decide +kernel)
theorem wd_1361 : Cond.methodLink "StageMachineModel" 275 ⟨"StageMachineModel", "keep", "()V"⟩ ∈ gtb := gtb_mem (i := 1417) (by decide +kernel) (by decide +kernel)
theorem wd_1363 : Cond.instanceMethod ⟨"StageMachineModel", "keep", "()V"⟩ ∈ gtb := gtb_mem (i := 1419) (by decide +kernel) (by decide +kernel)
set_option maxRecDepth 30000 in
theorem wd_1364 : Cond.code ⟨"StageMachineModel", "keep", "()V"⟩ prog_14_method_47_code 2 none ∈ gtb := gtb_mem (i := 1420) rfl (by decide +kernel)
theorem wd_1365 : Cond.methodLink "StageMachineLaw" 113 ⟨"StageMachineModel", "back", "()I"⟩ ∈ gtb := gtb_mem (i := 1421) (by decide +kernel) (by decide +kernel)
theorem wd_1366 : Cond.instanceMethod ⟨"StageMachineModel", "back", "()I"⟩ ∈ gtb := gtb_mem (i := 1422) (by decide +kernel) (by decide +kernel)
theorem wd_1367 : Cond.selects "StageMachineModel" ⟨"StageMachineModel", "back", "()I"⟩ ⟨"StageMachineModel", "back", "()I"⟩ ∈ gtb := gtb_mem (i := 1423) (by decide +kernel) (by decide +kernel)
set_option maxRecDepth 30000 in
theorem wd_1368 : Cond.code ⟨"StageMachineModel", "back", "()I"⟩ prog_14_method_49_code 2 (some .int) ∈ gtb := gtb_mem (i := 1424) rfl (by decide +kernel)
theorem wd_1369 : Cond.methodLink "StageMachineLaw" 117 ⟨"StageMachineModel", "candle", "(I)I"⟩ ∈ gtb := gtb_mem (i := 1425) (by decide +kernel) (by decide +kernel)
theorem wd_1370 : Cond.instanceMethod ⟨"StageMachineModel", "candle", "(I)I"⟩ ∈ gtb := gtb_mem (i := 1426) (by decide +kernel) (by decide +kernel)
theorem wd_1371 : Cond.selects "StageMachineModel" ⟨"StageMachineModel", "candle", "(I)I"⟩ ⟨"StageMachineModel", "candle", "(I)I"⟩ ∈ gtb := gtb_mem (i := 1427) (by decide +kernel) (by decide +kernel)
set_option maxRecDepth 30000 in
theorem wd_1372 : Cond.code ⟨"StageMachineModel", "candle", "(I)I"⟩ prog_14_method_51_code 2 (some .int) ∈ gtb := gtb_mem (i := 1428) rfl (by decide +kernel)
theorem wd_1373 : Cond.methodLink "StageMachineLaw" 121 ⟨"StageMachineModel", "minutes", "(I)I"⟩ ∈ gtb := gtb_mem (i := 1429) (by decide +kernel) (by decide +kernel)
theorem wd_1374 : Cond.instanceMethod ⟨"StageMachineModel", "minutes", "(I)I"⟩ ∈ gtb := gtb_mem (i := 1430) (by decide +kernel) (by decide +kernel)
theorem wd_1375 : Cond.selects "StageMachineModel" ⟨"StageMachineModel", "minutes", "(I)I"⟩ ⟨"StageMachineModel", "minutes", "(I)I"⟩ ∈ gtb := gtb_mem (i := 1431) (by decide +kernel) (by decide +kernel)
set_option maxRecDepth 30000 in
theorem wd_1376 : Cond.code ⟨"StageMachineModel", "minutes", "(I)I"⟩ prog_14_method_52_code 2 (some .int) ∈ gtb := gtb_mem (i := 1432) rfl (by decide +kernel)
theorem wd_1377 : Cond.methodLink "StageMachineLaw" 125 ⟨"StageMachineModel", "trim", "(I)I"⟩ ∈ gtb := gtb_mem (i := 1433) (by decide +kernel) (by decide +kernel)
theorem wd_1378 : Cond.instanceMethod ⟨"StageMachineModel", "trim", "(I)I"⟩ ∈ gtb := gtb_mem (i := 1434) (by decide +kernel) (by decide +kernel)
theorem wd_1379 : Cond.selects "StageMachineModel" ⟨"StageMachineModel", "trim", "(I)I"⟩ ⟨"StageMachineModel", "trim", "(I)I"⟩ ∈ gtb := gtb_mem (i := 1435) (by decide +kernel) (by decide +kernel)
set_option maxRecDepth 30000 in
theorem wd_1380 : Cond.code ⟨"StageMachineModel", "trim", "(I)I"⟩ prog_14_method_53_code 4 (some .int) ∈ gtb := gtb_mem (i := 1436) rfl (by decide +kernel)
theorem wd_1381 : Cond.methodLink "StageMachineModel" 284 ⟨"StageMachineModel", "left", "(I)I"⟩ ∈ gtb := gtb_mem (i := 1437) (by decide +kernel) (by decide +kernel)
theorem wd_1383 : Cond.instanceMethod ⟨"StageMachineModel", "left", "(I)I"⟩ ∈ gtb := gtb_mem (i := 1439) (by decide +kernel) (by decide +kernel)
set_option maxRecDepth 30000 in
theorem wd_1384 : Cond.code ⟨"StageMachineModel", "left", "(I)I"⟩ prog_14_method_50_code 2 (some .int) ∈ gtb := gtb_mem (i := 1440) rfl (by decide +kernel)
theorem wd_1385 : Cond.methodLink "StageMachineLaw" 129 ⟨"StageMachineModel", "light", "(I)I"⟩ ∈ gtb := gtb_mem (i := 1441) (by decide +kernel) (by decide +kernel)
theorem wd_1386 : Cond.instanceMethod ⟨"StageMachineModel", "light", "(I)I"⟩ ∈ gtb := gtb_mem (i := 1442) (by decide +kernel) (by decide +kernel)
theorem wd_1387 : Cond.selects "StageMachineModel" ⟨"StageMachineModel", "light", "(I)I"⟩ ⟨"StageMachineModel", "light", "(I)I"⟩ ∈ gtb := gtb_mem (i := 1443) (by decide +kernel) (by decide +kernel)
set_option maxRecDepth 30000 in
theorem wd_1388 : Cond.code ⟨"StageMachineModel", "light", "(I)I"⟩ prog_14_method_54_code 5 (some .int) ∈ gtb := gtb_mem (i := 1444) rfl (by decide +kernel)
theorem wd_1389 : Cond.methodLink "StageMachineLaw" 133 ⟨"StageMachineModel", "flat", "(II)I"⟩ ∈ gtb := gtb_mem (i := 1445) (by decide +kernel) (by decide +kernel)
theorem wd_1390 : Cond.instanceMethod ⟨"StageMachineModel", "flat", "(II)I"⟩ ∈ gtb := gtb_mem (i := 1446) (by decide +kernel) (by decide +kernel)
theorem wd_1391 : Cond.selects "StageMachineModel" ⟨"StageMachineModel", "flat", "(II)I"⟩ ⟨"StageMachineModel", "flat", "(II)I"⟩ ∈ gtb := gtb_mem (i := 1447) (by decide +kernel) (by decide +kernel)
set_option maxRecDepth 30000 in
theorem wd_1392 : Cond.code ⟨"StageMachineModel", "flat", "(II)I"⟩ prog_14_method_56_code 3 (some .int) ∈ gtb := gtb_mem (i := 1448) rfl (by decide +kernel)
theorem wd_1393 : Cond.methodLink "StageMachineModel" 287 ⟨"StageMachineModel", "isSize", "(I)Z"⟩ ∈ gtb := gtb_mem (i := 1449) (by decide +kernel) (by decide +kernel)
theorem wd_1394 : Cond.static ⟨"StageMachineModel", "isSize", "(I)Z"⟩ ∈ gtb := gtb_mem (i := 1450) (by decide +kernel) (by decide +kernel)
set_option maxRecDepth 30000 in
theorem wd_1395 : Cond.code ⟨"StageMachineModel", "isSize", "(I)Z"⟩ prog_14_method_55_code 1 (some .boolean) ∈ gtb := gtb_mem (i := 1451) rfl (by decide +kernel)
theorem wd_1396 : Cond.methodLink "StageMachineLaw" 137 ⟨"StageMachineModel", "want", "(II)I"⟩ ∈ gtb := gtb_mem (i := 1452) (by decide +kernel) (by decide +kernel)
theorem wd_1397 : Cond.instanceMethod ⟨"StageMachineModel", "want", "(II)I"⟩ ∈ gtb := gtb_mem (i := 1453) (by decide +kernel) (by decide +kernel)
theorem wd_1398 : Cond.selects "StageMachineModel" ⟨"StageMachineModel", "want", "(II)I"⟩ ⟨"StageMachineModel", "want", "(II)I"⟩ ∈ gtb := gtb_mem (i := 1454) (by decide +kernel) (by decide +kernel)
set_option maxRecDepth 30000 in
theorem wd_1399 : Cond.code ⟨"StageMachineModel", "want", "(II)I"⟩ prog_14_method_57_code 3 (some .int) ∈ gtb := gtb_mem (i := 1455) rfl (by decide +kernel)
theorem wd_1400 : Cond.methodLink "StageMachineLaw" 141 ⟨"StageMachineModel", "paint", "()I"⟩ ∈ gtb := gtb_mem (i := 1456) (by decide +kernel) (by decide +kernel)
theorem wd_1401 : Cond.instanceMethod ⟨"StageMachineModel", "paint", "()I"⟩ ∈ gtb := gtb_mem (i := 1457) (by decide +kernel) (by decide +kernel)
theorem wd_1402 : Cond.selects "StageMachineModel" ⟨"StageMachineModel", "paint", "()I"⟩ ⟨"StageMachineModel", "paint", "()I"⟩ ∈ gtb := gtb_mem (i := 1458) (by decide +kernel) (by decide +kernel)
set_option maxRecDepth 30000 in
theorem wd_1403 : Cond.code ⟨"StageMachineModel", "paint", "()I"⟩ prog_14_method_62_code 5 (some .int) ∈ gtb := gtb_mem (i := 1459) rfl (by decide +kernel)
theorem wd_1404 : Cond.methodLink "StageMachineModel" 299 ⟨"StageMachineModel", "cost", "(II)I"⟩ ∈ gtb := gtb_mem (i := 1460) (by decide +kernel) (by decide +kernel)
theorem wd_1406 : Cond.instanceMethod ⟨"StageMachineModel", "cost", "(II)I"⟩ ∈ gtb := gtb_mem (i := 1462) (by decide +kernel) (by decide +kernel)
set_option maxRecDepth 30000 in
theorem wd_1407 : Cond.code ⟨"StageMachineModel", "cost", "(II)I"⟩ prog_14_method_59_code 3 (some .int) ∈ gtb := gtb_mem (i := 1463) rfl (by decide +kernel)
theorem wd_1408 : Cond.methodLink "StageMachineModel" 296 ⟨"StageMachineModel", "area", "(I)I"⟩ ∈ gtb := gtb_mem (i := 1464) (by decide +kernel) (by decide +kernel)
theorem wd_1409 : Cond.static ⟨"StageMachineModel", "area", "(I)I"⟩ ∈ gtb := gtb_mem (i := 1465) (by decide +kernel) (by decide +kernel)
set_option maxRecDepth 30000 in
theorem wd_1410 : Cond.code ⟨"StageMachineModel", "area", "(I)I"⟩ prog_14_method_58_code 1 (some .int) ∈ gtb := gtb_mem (i := 1466) rfl (by decide +kernel)
theorem wd_1411 : Cond.methodLink "StageMachineModel" 302 ⟨"StageMachineModel", "isTaken", "(I)Z"⟩ ∈ gtb := gtb_mem (i := 1467) (by decide +kernel) (by decide +kernel)
theorem wd_1413 : Cond.instanceMethod ⟨"StageMachineModel", "isTaken", "(I)Z"⟩ ∈ gtb := gtb_mem (i := 1469) (by decide +kernel) (by decide +kernel)
set_option maxRecDepth 30000 in
theorem wd_1414 : Cond.code ⟨"StageMachineModel", "isTaken", "(I)Z"⟩ prog_14_method_60_code 3 (some .boolean) ∈ gtb := gtb_mem (i := 1470) rfl (by decide +kernel)
theorem wd_1415 : Cond.methodLink "StageMachineModel" 305 ⟨"StageMachineModel", "costTo", "(I)I"⟩ ∈ gtb := gtb_mem (i := 1471) (by decide +kernel) (by decide +kernel)
theorem wd_1417 : Cond.instanceMethod ⟨"StageMachineModel", "costTo", "(I)I"⟩ ∈ gtb := gtb_mem (i := 1473) (by decide +kernel) (by decide +kernel)
set_option maxRecDepth 30000 in
theorem wd_1418 : Cond.code ⟨"StageMachineModel", "costTo", "(I)I"⟩ prog_14_method_61_code 4 (some .int) ∈ gtb := gtb_mem (i := 1474) rfl (by decide +kernel)
theorem wd_1419 : Cond.methodLink "StageMachineLaw" 145 ⟨"StageMachineModel", "given", "(I)I"⟩ ∈ gtb := gtb_mem (i := 1475) (by decide +kernel) (by decide +kernel)
theorem wd_1420 : Cond.instanceMethod ⟨"StageMachineModel", "given", "(I)I"⟩ ∈ gtb := gtb_mem (i := 1476) (by decide +kernel) (by decide +kernel)
theorem wd_1421 : Cond.selects "StageMachineModel" ⟨"StageMachineModel", "given", "(I)I"⟩ ⟨"StageMachineModel", "given", "(I)I"⟩ ∈ gtb := gtb_mem (i := 1477) (by decide +kernel) (by decide +kernel)
set_option maxRecDepth 30000 in
theorem wd_1422 : Cond.code ⟨"StageMachineModel", "given", "(I)I"⟩ prog_14_method_63_code 2 (some .int) ∈ gtb := gtb_mem (i := 1478) rfl (by decide +kernel)
theorem wd_1423 : Cond.methodLink "StageMachineLaw" 149 ⟨"StageMachineModel", "count", "(I)I"⟩ ∈ gtb := gtb_mem (i := 1479) (by decide +kernel) (by decide +kernel)
theorem wd_1424 : Cond.instanceMethod ⟨"StageMachineModel", "count", "(I)I"⟩ ∈ gtb := gtb_mem (i := 1480) (by decide +kernel) (by decide +kernel)
theorem wd_1425 : Cond.selects "StageMachineModel" ⟨"StageMachineModel", "count", "(I)I"⟩ ⟨"StageMachineModel", "count", "(I)I"⟩ ∈ gtb := gtb_mem (i := 1481) (by decide +kernel) (by decide +kernel)
set_option maxRecDepth 30000 in
theorem wd_1426 : Cond.code ⟨"StageMachineModel", "count", "(I)I"⟩ prog_14_method_64_code 4 (some .int) ∈ gtb := gtb_mem (i := 1482) rfl (by decide +kernel)
theorem wp_0 : Cond.selects "StageMachine" ⟨"StageMachine", "deed", "(IZ)I"⟩ ⟨"StageMachine", "deed", "(IZ)I"⟩ ∈ gtb := gtb_mem (i := 0) (by decide +kernel) (by decide +kernel)
theorem wp_1 : Cond.selects "StageMachine$Turning" ⟨"StageMachine$Turning", "isBeyond", "()Z"⟩ ⟨"StageMachine$Turning", "isBeyond", "()Z"⟩ ∈ gtb := gtb_mem (i := 1) (by decide +kernel) (by decide +kernel)
theorem wp_2 : Cond.selects "StageMachine$Turning" ⟨"StageMachine$Turning", "isMeeting", "()Z"⟩ ⟨"StageMachine$Turning", "isMeeting", "()Z"⟩ ∈ gtb := gtb_mem (i := 2) (by decide +kernel) (by decide +kernel)
theorem wp_3 : Cond.selects "StageMachine$Turning" ⟨"StageMachine$Turning", "isUneven", "(I)Z"⟩ ⟨"StageMachine$Turning", "isUneven", "(I)Z"⟩ ∈ gtb := gtb_mem (i := 3) (by decide +kernel) (by decide +kernel)
theorem wp_4 : Cond.selects "StageMachine$Turning" ⟨"StageMachine$Turning", "stepsToNextMove", "(II)I"⟩ ⟨"StageMachine$Turning", "stepsToNextMove", "(II)I"⟩ ∈ gtb := gtb_mem (i := 4) (by decide +kernel) (by decide +kernel)
theorem wp_5 : Cond.selects "StageMachine$Stage" ⟨"StageMachine$Stage", "fall", "(LStageMachine$Thing;II)I"⟩ ⟨"StageMachine$Stage", "fall", "(LStageMachine$Thing;II)I"⟩ ∈ gtb := gtb_mem (i := 5) (by decide +kernel) (by decide +kernel)
theorem wp_6 : Cond.selects "StageMachine$Stage" ⟨"StageMachine$Stage", "canFall", "(LStageMachine$Thing;I)Z"⟩ ⟨"StageMachine$Stage", "canFall", "(LStageMachine$Thing;I)Z"⟩ ∈ gtb := gtb_mem (i := 6) (by decide +kernel) (by decide +kernel)
theorem wp_7 : Cond.selects "StageMachine$Stage" ⟨"StageMachine$Stage", "isCatch", "(II)Z"⟩ ⟨"StageMachine$Stage", "isCatch", "(II)Z"⟩ ∈ gtb := gtb_mem (i := 7) (by decide +kernel) (by decide +kernel)
theorem wp_8 : Cond.selects "StageMachine$Change" ⟨"StageMachine$Change", "findTie", "(LStageMachine$Thing;II)Z"⟩ ⟨"StageMachine$Change", "findTie", "(LStageMachine$Thing;II)Z"⟩ ∈ gtb := gtb_mem (i := 8) (by decide +kernel) (by decide +kernel)
theorem wp_9 : Cond.selects "StageMachine$Change" ⟨"StageMachine$Change", "findDrum", "(LStageMachine$Rope;II)I"⟩ ⟨"StageMachine$Change", "findDrum", "(LStageMachine$Rope;II)I"⟩ ∈ gtb := gtb_mem (i := 9) (by decide +kernel) (by decide +kernel)
theorem wp_10 : Cond.selects "StageMachine$Change" ⟨"StageMachine$Change", "countWorks", "()V"⟩ ⟨"StageMachine$Change", "countWorks", "()V"⟩ ∈ gtb := gtb_mem (i := 10) (by decide +kernel) (by decide +kernel)
theorem wp_11 : Cond.selects "StageMachine$Change" ⟨"StageMachine$Change", "isReady", "(LStageMachine$Rope;I)Z"⟩ ⟨"StageMachine$Change", "isReady", "(LStageMachine$Rope;I)Z"⟩ ∈ gtb := gtb_mem (i := 11) (by decide +kernel) (by decide +kernel)
theorem wp_12 : Cond.selects "StageMachine$Change" ⟨"StageMachine$Change", "works", "()I"⟩ ⟨"StageMachine$Change", "works", "()I"⟩ ∈ gtb := gtb_mem (i := 12) (by decide +kernel) (by decide +kernel)
theorem wp_13 : Cond.selects "StageMachine$Change" ⟨"StageMachine$Change", "longestWork", "()I"⟩ ⟨"StageMachine$Change", "longestWork", "()I"⟩ ∈ gtb := gtb_mem (i := 13) (by decide +kernel) (by decide +kernel)
theorem wp_14 : Cond.selects "StageMachine$Change" ⟨"StageMachine$Change", "shareOut", "(I)I"⟩ ⟨"StageMachine$Change", "shareOut", "(I)I"⟩ ∈ gtb := gtb_mem (i := 14) (by decide +kernel) (by decide +kernel)
theorem wp_15 : Cond.selects "StageMachine$Change" ⟨"StageMachine$Change", "leastShare", "(IIII)I"⟩ ⟨"StageMachine$Change", "leastShare", "(IIII)I"⟩ ∈ gtb := gtb_mem (i := 15) (by decide +kernel) (by decide +kernel)
theorem wp_16 : Cond.selects "StageMachine$Change" ⟨"StageMachine$Change", "slot", "(III)I"⟩ ⟨"StageMachine$Change", "slot", "(III)I"⟩ ∈ gtb := gtb_mem (i := 16) (by decide +kernel) (by decide +kernel)
theorem wp_17 : Cond.selects "StageMachine$Change" ⟨"StageMachine$Change", "withWork", "(III)I"⟩ ⟨"StageMachine$Change", "withWork", "(III)I"⟩ ∈ gtb := gtb_mem (i := 17) (by decide +kernel) (by decide +kernel)
theorem wp_18 : Cond.selects "StageMachine$Tape" ⟨"StageMachine$Tape", "readLine", "(I)Z"⟩ ⟨"StageMachine$Tape", "readLine", "(I)Z"⟩ ∈ gtb := gtb_mem (i := 18) (by decide +kernel) (by decide +kernel)
theorem wp_19 : Cond.selects "StageMachine$Tape" ⟨"StageMachine$Tape", "peek", "()I"⟩ ⟨"StageMachine$Tape", "peek", "()I"⟩ ∈ gtb := gtb_mem (i := 19) (by decide +kernel) (by decide +kernel)
theorem wp_20 : Cond.selects "StageMachine$Tape" ⟨"StageMachine$Tape", "readTwo", "(IZ)Z"⟩ ⟨"StageMachine$Tape", "readTwo", "(IZ)Z"⟩ ∈ gtb := gtb_mem (i := 20) (by decide +kernel) (by decide +kernel)
theorem wp_21 : Cond.selects "StageMachine$Tape" ⟨"StageMachine$Tape", "readNumber", "(Z)Z"⟩ ⟨"StageMachine$Tape", "readNumber", "(Z)Z"⟩ ∈ gtb := gtb_mem (i := 21) (by decide +kernel) (by decide +kernel)
theorem wp_22 : Cond.selects "StageMachine$Tape" ⟨"StageMachine$Tape", "readSign", "(I)Z"⟩ ⟨"StageMachine$Tape", "readSign", "(I)Z"⟩ ∈ gtb := gtb_mem (i := 22) (by decide +kernel) (by decide +kernel)
theorem wp_23 : Cond.selects "StageMachine$Tape" ⟨"StageMachine$Tape", "readOne", "(IZ)Z"⟩ ⟨"StageMachine$Tape", "readOne", "(IZ)Z"⟩ ∈ gtb := gtb_mem (i := 23) (by decide +kernel) (by decide +kernel)
theorem wp_24 : Cond.selects "StageMachine" ⟨"StageMachine", "playLine", "(I)I"⟩ ⟨"StageMachine", "playLine", "(I)I"⟩ ∈ gtb := gtb_mem (i := 24) (by decide +kernel) (by decide +kernel)
theorem wp_25 : Cond.selects "StageMachine$Candles" ⟨"StageMachine$Candles", "burning", "()I"⟩ ⟨"StageMachine$Candles", "burning", "()I"⟩ ∈ gtb := gtb_mem (i := 25) (by decide +kernel) (by decide +kernel)
theorem wp_26 : Cond.selects "StageMachine$Candles" ⟨"StageMachine$Candles", "leastLeft", "()I"⟩ ⟨"StageMachine$Candles", "leastLeft", "()I"⟩ ∈ gtb := gtb_mem (i := 26) (by decide +kernel) (by decide +kernel)
theorem wp_27 : Cond.selects "StageMachine$Stock" ⟨"StageMachine$Stock", "leastSum", "()I"⟩ ⟨"StageMachine$Stock", "leastSum", "()I"⟩ ∈ gtb := gtb_mem (i := 27) (by decide +kernel) (by decide +kernel)
theorem wp_28 : Cond.selects "StageMachine$Stock" ⟨"StageMachine$Stock", "leastSumBehind", "(ILStageMachine$Panel;)I"⟩ ⟨"StageMachine$Stock", "leastSumBehind", "(ILStageMachine$Panel;)I"⟩ ∈ gtb := gtb_mem (i := 28) (by decide +kernel) (by decide +kernel)
theorem wp_29 : Cond.selects "StageMachine$Stock" ⟨"StageMachine$Stock", "sumWith", "(IILStageMachine$Panel;)I"⟩ ⟨"StageMachine$Stock", "sumWith", "(IILStageMachine$Panel;)I"⟩ ∈ gtb := gtb_mem (i := 29) (by decide +kernel) (by decide +kernel)
theorem wp_30 : Cond.selects "StageMachine$Stock" ⟨"StageMachine$Stock", "give", "()V"⟩ ⟨"StageMachine$Stock", "give", "()V"⟩ ∈ gtb := gtb_mem (i := 30) (by decide +kernel) (by decide +kernel)
theorem wp_31 : Cond.selects "StageMachineModel" ⟨"StageMachineModel", "isThing", "(I)Z"⟩ ⟨"StageMachineModel", "isThing", "(I)Z"⟩ ∈ gtb := gtb_mem (i := 31) (by decide +kernel) (by decide +kernel)
theorem wp_32 : Cond.selects "StageMachineModel" ⟨"StageMachineModel", "tiedTo", "(I)I"⟩ ⟨"StageMachineModel", "tiedTo", "(I)I"⟩ ∈ gtb := gtb_mem (i := 32) (by decide +kernel) (by decide +kernel)
theorem wp_33 : Cond.selects "StageMachineModel" ⟨"StageMachineModel", "isRope", "(I)Z"⟩ ⟨"StageMachineModel", "isRope", "(I)Z"⟩ ∈ gtb := gtb_mem (i := 33) (by decide +kernel) (by decide +kernel)
theorem wp_34 : Cond.selects "StageMachineModel" ⟨"StageMachineModel", "load", "(I)I"⟩ ⟨"StageMachineModel", "load", "(I)I"⟩ ∈ gtb := gtb_mem (i := 34) (by decide +kernel) (by decide +kernel)
theorem wp_35 : Cond.selects "StageMachineModel" ⟨"StageMachineModel", "tieNow", "(II)I"⟩ ⟨"StageMachineModel", "tieNow", "(II)I"⟩ ∈ gtb := gtb_mem (i := 35) (by decide +kernel) (by decide +kernel)
theorem wp_36 : Cond.selects "StageMachineModel" ⟨"StageMachineModel", "isDrum", "(I)Z"⟩ ⟨"StageMachineModel", "isDrum", "(I)Z"⟩ ∈ gtb := gtb_mem (i := 36) (by decide +kernel) (by decide +kernel)
theorem wp_37 : Cond.selects "StageMachineModel" ⟨"StageMachineModel", "untieNow", "(I)I"⟩ ⟨"StageMachineModel", "untieNow", "(I)I"⟩ ∈ gtb := gtb_mem (i := 37) (by decide +kernel) (by decide +kernel)
theorem wp_38 : Cond.selects "StageMachineModel" ⟨"StageMachineModel", "weighNow", "(II)I"⟩ ⟨"StageMachineModel", "weighNow", "(II)I"⟩ ∈ gtb := gtb_mem (i := 38) (by decide +kernel) (by decide +kernel)
theorem wp_39 : Cond.selects "StageMachineModel" ⟨"StageMachineModel", "turnNow", "(I)I"⟩ ⟨"StageMachineModel", "turnNow", "(I)I"⟩ ∈ gtb := gtb_mem (i := 39) (by decide +kernel) (by decide +kernel)
theorem wp_40 : Cond.selects "StageMachineModel" ⟨"StageMachineModel", "place", "(I)V"⟩ ⟨"StageMachineModel", "place", "(I)V"⟩ ∈ gtb := gtb_mem (i := 40) (by decide +kernel) (by decide +kernel)
theorem wp_41 : Cond.selects "StageMachineModel" ⟨"StageMachineModel", "find", "()V"⟩ ⟨"StageMachineModel", "find", "()V"⟩ ∈ gtb := gtb_mem (i := 41) (by decide +kernel) (by decide +kernel)
theorem wp_42 : Cond.selects "StageMachineModel" ⟨"StageMachineModel", "other", "(II)I"⟩ ⟨"StageMachineModel", "other", "(II)I"⟩ ∈ gtb := gtb_mem (i := 42) (by decide +kernel) (by decide +kernel)
theorem wp_43 : Cond.selects "StageMachineModel" ⟨"StageMachineModel", "meets", "(III)Z"⟩ ⟨"StageMachineModel", "meets", "(III)Z"⟩ ∈ gtb := gtb_mem (i := 43) (by decide +kernel) (by decide +kernel)
theorem wp_44 : Cond.selects "StageMachineModel" ⟨"StageMachineModel", "isCaught", "(II)Z"⟩ ⟨"StageMachineModel", "isCaught", "(II)Z"⟩ ∈ gtb := gtb_mem (i := 44) (by decide +kernel) (by decide +kernel)
theorem wp_45 : Cond.selects "StageMachineModel" ⟨"StageMachineModel", "brings", "(III)Z"⟩ ⟨"StageMachineModel", "brings", "(III)Z"⟩ ∈ gtb := gtb_mem (i := 45) (by decide +kernel) (by decide +kernel)
theorem wp_46 : Cond.selects "StageMachineModel" ⟨"StageMachineModel", "workOf", "(I)I"⟩ ⟨"StageMachineModel", "workOf", "(I)I"⟩ ∈ gtb := gtb_mem (i := 46) (by decide +kernel) (by decide +kernel)
theorem wp_47 : Cond.selects "StageMachineModel" ⟨"StageMachineModel", "menFor", "(IIII)I"⟩ ⟨"StageMachineModel", "menFor", "(IIII)I"⟩ ∈ gtb := gtb_mem (i := 47) (by decide +kernel) (by decide +kernel)
theorem wp_48 : Cond.selects "StageMachineModel" ⟨"StageMachineModel", "line", "()Z"⟩ ⟨"StageMachineModel", "line", "()Z"⟩ ∈ gtb := gtb_mem (i := 48) (by decide +kernel) (by decide +kernel)
theorem wp_49 : Cond.selects "StageMachineModel" ⟨"StageMachineModel", "look", "()I"⟩ ⟨"StageMachineModel", "look", "()I"⟩ ∈ gtb := gtb_mem (i := 49) (by decide +kernel) (by decide +kernel)
theorem wp_50 : Cond.selects "StageMachineModel" ⟨"StageMachineModel", "takes", "(Z)Z"⟩ ⟨"StageMachineModel", "takes", "(Z)Z"⟩ ∈ gtb := gtb_mem (i := 50) (by decide +kernel) (by decide +kernel)
theorem wp_51 : Cond.selects "StageMachineModel" ⟨"StageMachineModel", "keep", "()V"⟩ ⟨"StageMachineModel", "keep", "()V"⟩ ∈ gtb := gtb_mem (i := 51) (by decide +kernel) (by decide +kernel)
theorem wp_52 : Cond.selects "StageMachineModel" ⟨"StageMachineModel", "left", "(I)I"⟩ ⟨"StageMachineModel", "left", "(I)I"⟩ ∈ gtb := gtb_mem (i := 52) (by decide +kernel) (by decide +kernel)
theorem wp_53 : Cond.selects "StageMachineModel" ⟨"StageMachineModel", "cost", "(II)I"⟩ ⟨"StageMachineModel", "cost", "(II)I"⟩ ∈ gtb := gtb_mem (i := 53) (by decide +kernel) (by decide +kernel)
theorem wp_54 : Cond.selects "StageMachineModel" ⟨"StageMachineModel", "isTaken", "(I)Z"⟩ ⟨"StageMachineModel", "isTaken", "(I)Z"⟩ ∈ gtb := gtb_mem (i := 54) (by decide +kernel) (by decide +kernel)
theorem wp_55 : Cond.selects "StageMachineModel" ⟨"StageMachineModel", "costTo", "(I)I"⟩ ⟨"StageMachineModel", "costTo", "(I)I"⟩ ∈ gtb := gtb_mem (i := 55) (by decide +kernel) (by decide +kernel)
theorem fc_of {c : Nat} {C : String} {T : u_T} {N : Nat} {ty : Nat → FieldType} (h1 : cls13[c]? = some (C, T, N)) (h2 : ∀ w ∈ u_ws C T N, w ∈ lw_tbl) (h2b : (u_ws C T N).all goodWord = true) (h3 : ∀ k, k < N → parseFieldDescriptor (T k).2.2.1 = some (ty k)) (h4 : ∀ a, a < N → ∀ b, b < N → a ≠ b → (T a).2.1 ≠ (T b).2.1) (h5 : nF c = N) (h6 : c < 13) (h7 : tyOf c = ty) : FC c C T N ty := ⟨h1, fun w hw => List.mem_filter.mpr ⟨h2 w hw, List.all_eq_true.mp h2b w hw⟩, h3, h4, h5, h6, h7⟩
theorem fc_0 : FC 0 RX0 TX0 4 tyX0 := fc_of rfl (by decide +kernel) (by decide +kernel) tyX0_ok nmX0 rfl (by decide) rfl
theorem fc_1 : FC 1 RX1 TX1 9 tyX1 := fc_of rfl (by decide +kernel) (by decide +kernel) tyX1_ok nmX1 rfl (by decide) rfl
theorem fc_2 : FC 2 RX2 TX2 2 tyX2 := fc_of rfl (by decide +kernel) (by decide +kernel) tyX2_ok nmX2 rfl (by decide) rfl
theorem fc_3 : FC 3 RX3 TX3 3 tyX3 := fc_of rfl (by decide +kernel) (by decide +kernel) tyX3_ok nmX3 rfl (by decide) rfl
theorem fc_4 : FC 4 RX4 TX4 12 tyX4 := fc_of rfl (by decide +kernel) (by decide +kernel) tyX4_ok nmX4 rfl (by decide) rfl
theorem fc_5 : FC 5 RX5 TX5 15 tyX5 := fc_of rfl (by decide +kernel) (by decide +kernel) tyX5_ok nmX5 rfl (by decide) rfl
theorem fc_6 : FC 6 RX6 TX6 7 tyX6 := fc_of rfl (by decide +kernel) (by decide +kernel) tyX6_ok nmX6 rfl (by decide) rfl
theorem fc_7 : FC 7 RX7 TX7 3 tyX7 := fc_of rfl (by decide +kernel) (by decide +kernel) tyX7_ok nmX7 rfl (by decide) rfl
theorem fc_8 : FC 8 RX8 TX8 8 tyX8 := fc_of rfl (by decide +kernel) (by decide +kernel) tyX8_ok nmX8 rfl (by decide) rfl
theorem fc_9 : FC 9 RX9 TX9 12 tyX9 := fc_of rfl (by decide +kernel) (by decide +kernel) tyX9_ok nmX9 rfl (by decide) rfl
theorem fc_10 : FC 10 RX10 TX10 3 tyX10 := fc_of rfl (by decide +kernel) (by decide +kernel) tyX10_ok nmX10 rfl (by decide) rfl
theorem fc_11 : FC 11 RX11 TX11 7 tyX11 := fc_of rfl (by decide +kernel) (by decide +kernel) tyX11_ok nmX11 rfl (by decide) rfl
theorem fc_12 : FC 12 RX12 TX12 65 tyX12 := fc_of rfl (by decide +kernel) (by decide +kernel) tyX12_ok nmX12 rfl (by decide) rfl
theorem fl_X11_10 : FL RX11 10 11 3 := ⟨_, _, _, _, fc_11, by decide, wd_263⟩
theorem fl_X11_19 : FL RX11 19 11 4 := ⟨_, _, _, _, fc_11, by decide, wd_264⟩
theorem fl_X11_26 : FL RX11 26 11 5 := ⟨_, _, _, _, fc_11, by decide, wd_265⟩
theorem fl_X11_33 : FL RX11 33 11 0 := ⟨_, _, _, _, fc_11, by decide, wd_260⟩
theorem fl_X11_42 : FL RX11 42 11 1 := ⟨_, _, _, _, fc_11, by decide, wd_261⟩
theorem fl_X11_49 : FL RX11 49 11 2 := ⟨_, _, _, _, fc_11, by decide, wd_262⟩
theorem fl_X11_113 : FL RX11 113 10 1 := ⟨_, _, _, _, fc_10, by decide, wd_217⟩
theorem fl_X11_150 : FL RX11 150 8 4 := ⟨_, _, _, _, fc_8, by decide, wd_40⟩
theorem fl_X11_157 : FL RX11 157 11 6 := ⟨_, _, _, _, fc_11, by decide, wd_266⟩
theorem fl_X11_161 : FL RX11 161 8 5 := ⟨_, _, _, _, fc_8, by decide, wd_42⟩
theorem fl_X11_192 : FL RX11 192 5 7 := ⟨_, _, _, _, fc_5, by decide, wd_143⟩
theorem fl_X11_195 : FL RX11 195 5 8 := ⟨_, _, _, _, fc_5, by decide, wd_146⟩
theorem fl_X11_198 : FL RX11 198 5 9 := ⟨_, _, _, _, fc_5, by decide, wd_150⟩
theorem fl_X11_204 : FL RX11 204 5 11 := ⟨_, _, _, _, fc_5, by decide, wd_154⟩
theorem fl_X11_207 : FL RX11 207 0 3 := ⟨_, _, _, _, fc_0, by decide, wd_74⟩
theorem fl_X11_210 : FL RX11 210 0 2 := ⟨_, _, _, _, fc_0, by decide, wd_72⟩
theorem fl_X11_213 : FL RX11 213 6 4 := ⟨_, _, _, _, fc_6, by decide, wd_97⟩
theorem fl_X11_216 : FL RX11 216 5 12 := ⟨_, _, _, _, fc_5, by decide, wd_156⟩
theorem fl_X11_219 : FL RX11 219 8 2 := ⟨_, _, _, _, fc_8, by decide, wd_36⟩
theorem fl_X11_223 : FL RX11 223 8 3 := ⟨_, _, _, _, fc_8, by decide, wd_38⟩
theorem fl_X11_226 : FL RX11 226 8 1 := ⟨_, _, _, _, fc_8, by decide, wd_34⟩
theorem fl_X0_9 : FL RX0 9 0 0 := ⟨_, _, _, _, fc_0, by decide, wd_69⟩
theorem fl_X0_15 : FL RX0 15 0 1 := ⟨_, _, _, _, fc_0, by decide, wd_70⟩
theorem fl_X0_22 : FL RX0 22 0 2 := ⟨_, _, _, _, fc_0, by decide, wd_71⟩
theorem fl_X0_26 : FL RX0 26 0 3 := ⟨_, _, _, _, fc_0, by decide, wd_73⟩
theorem fl_X1_9 : FL RX1 9 1 1 := ⟨_, _, _, _, fc_1, by decide, wd_233⟩
theorem fl_X1_15 : FL RX1 15 1 2 := ⟨_, _, _, _, fc_1, by decide, wd_234⟩
theorem fl_X1_18 : FL RX1 18 1 3 := ⟨_, _, _, _, fc_1, by decide, wd_235⟩
theorem fl_X1_21 : FL RX1 21 1 0 := ⟨_, _, _, _, fc_1, by decide, wd_232⟩
theorem fl_X1_33 : FL RX1 33 1 4 := ⟨_, _, _, _, fc_1, by decide, wd_236⟩
theorem fl_X1_37 : FL RX1 37 1 5 := ⟨_, _, _, _, fc_1, by decide, wd_237⟩
theorem fl_X1_46 : FL RX1 46 5 7 := ⟨_, _, _, _, fc_5, by decide, wd_141⟩
theorem fl_X1_52 : FL RX1 52 5 0 := ⟨_, _, _, _, fc_5, by decide, wd_129⟩
theorem fl_X1_56 : FL RX1 56 9 6 := ⟨_, _, _, _, fc_9, by decide, wd_325⟩
theorem fl_X1_61 : FL RX1 61 9 7 := ⟨_, _, _, _, fc_9, by decide, wd_327⟩
theorem fl_X1_71 : FL RX1 71 5 9 := ⟨_, _, _, _, fc_5, by decide, wd_147⟩
theorem fl_X1_74 : FL RX1 74 5 2 := ⟨_, _, _, _, fc_5, by decide, wd_134⟩
theorem fl_X1_77 : FL RX1 77 4 1 := ⟨_, _, _, _, fc_4, by decide, wd_434⟩
theorem fl_X1_83 : FL RX1 83 4 8 := ⟨_, _, _, _, fc_4, by decide, wd_450⟩
theorem fl_X1_94 : FL RX1 94 9 0 := ⟨_, _, _, _, fc_9, by decide, wd_313⟩
theorem fl_X1_97 : FL RX1 97 5 8 := ⟨_, _, _, _, fc_5, by decide, wd_145⟩
theorem fl_X1_100 : FL RX1 100 5 1 := ⟨_, _, _, _, fc_5, by decide, wd_132⟩
theorem fl_X1_103 : FL RX1 103 2 1 := ⟨_, _, _, _, fc_2, by decide, wd_409⟩
theorem fl_X1_112 : FL RX1 112 1 6 := ⟨_, _, _, _, fc_1, by decide, wd_238⟩
theorem fl_X1_115 : FL RX1 115 1 7 := ⟨_, _, _, _, fc_1, by decide, wd_239⟩
theorem fl_X1_118 : FL RX1 118 1 8 := ⟨_, _, _, _, fc_1, by decide, wd_240⟩
theorem fl_X1_121 : FL RX1 121 9 9 := ⟨_, _, _, _, fc_9, by decide, wd_334⟩
theorem fl_X1_129 : FL RX1 129 4 0 := ⟨_, _, _, _, fc_4, by decide, wd_432⟩
theorem fl_X1_130 : FL RX1 130 4 7 := ⟨_, _, _, _, fc_4, by decide, wd_447⟩
theorem fl_X1_133 : FL RX1 133 4 5 := ⟨_, _, _, _, fc_4, by decide, wd_441⟩
theorem fl_X1_137 : FL RX1 137 2 0 := ⟨_, _, _, _, fc_2, by decide, wd_407⟩
theorem fl_X2_7 : FL RX2 7 2 0 := ⟨_, _, _, _, fc_2, by decide, wd_405⟩
theorem fl_X2_13 : FL RX2 13 2 1 := ⟨_, _, _, _, fc_2, by decide, wd_408⟩
theorem fl_X3_7 : FL RX3 7 3 0 := ⟨_, _, _, _, fc_3, by decide, wd_899⟩
theorem fl_X3_13 : FL RX3 13 3 1 := ⟨_, _, _, _, fc_3, by decide, wd_900⟩
theorem fl_X3_16 : FL RX3 16 3 2 := ⟨_, _, _, _, fc_3, by decide, wd_901⟩
theorem fl_X4_9 : FL RX4 9 4 0 := ⟨_, _, _, _, fc_4, by decide, wd_430⟩
theorem fl_X4_15 : FL RX4 15 4 1 := ⟨_, _, _, _, fc_4, by decide, wd_433⟩
theorem fl_X4_19 : FL RX4 19 4 2 := ⟨_, _, _, _, fc_4, by decide, wd_436⟩
theorem fl_X4_22 : FL RX4 22 4 3 := ⟨_, _, _, _, fc_4, by decide, wd_438⟩
theorem fl_X4_25 : FL RX4 25 4 4 := ⟨_, _, _, _, fc_4, by decide, wd_439⟩
theorem fl_X4_28 : FL RX4 28 9 0 := ⟨_, _, _, _, fc_9, by decide, wd_312⟩
theorem fl_X4_35 : FL RX4 35 4 5 := ⟨_, _, _, _, fc_4, by decide, wd_440⟩
theorem fl_X4_39 : FL RX4 39 2 0 := ⟨_, _, _, _, fc_2, by decide, wd_406⟩
theorem fl_X4_42 : FL RX4 42 4 7 := ⟨_, _, _, _, fc_4, by decide, wd_446⟩
theorem fl_X4_45 : FL RX4 45 4 8 := ⟨_, _, _, _, fc_4, by decide, wd_449⟩
theorem fl_X4_50 : FL RX4 50 9 3 := ⟨_, _, _, _, fc_9, by decide, wd_319⟩
theorem fl_X4_60 : FL RX4 60 2 1 := ⟨_, _, _, _, fc_2, by decide, wd_410⟩
theorem fl_X4_63 : FL RX4 63 4 6 := ⟨_, _, _, _, fc_4, by decide, wd_444⟩
theorem fl_X4_73 : FL RX4 73 9 7 := ⟨_, _, _, _, fc_9, by decide, wd_328⟩
theorem fl_X4_76 : FL RX4 76 9 9 := ⟨_, _, _, _, fc_9, by decide, wd_335⟩
theorem fl_X5_11 : FL RX5 11 5 0 := ⟨_, _, _, _, fc_5, by decide, wd_128⟩
theorem fl_X5_19 : FL RX5 19 5 1 := ⟨_, _, _, _, fc_5, by decide, wd_131⟩
theorem fl_X5_25 : FL RX5 25 5 2 := ⟨_, _, _, _, fc_5, by decide, wd_133⟩
theorem fl_X5_29 : FL RX5 29 5 3 := ⟨_, _, _, _, fc_5, by decide, wd_136⟩
theorem fl_X5_33 : FL RX5 33 5 4 := ⟨_, _, _, _, fc_5, by decide, wd_137⟩
theorem fl_X5_36 : FL RX5 36 5 5 := ⟨_, _, _, _, fc_5, by decide, wd_138⟩
theorem fl_X5_39 : FL RX5 39 5 6 := ⟨_, _, _, _, fc_5, by decide, wd_139⟩
theorem fl_X5_43 : FL RX5 43 5 10 := ⟨_, _, _, _, fc_5, by decide, wd_151⟩
theorem fl_X5_47 : FL RX5 47 5 7 := ⟨_, _, _, _, fc_5, by decide, wd_140⟩
theorem fl_X5_54 : FL RX5 54 5 8 := ⟨_, _, _, _, fc_5, by decide, wd_144⟩
theorem fl_X5_57 : FL RX5 57 5 9 := ⟨_, _, _, _, fc_5, by decide, wd_148⟩
theorem fl_X5_81 : FL RX5 81 9 1 := ⟨_, _, _, _, fc_9, by decide, wd_315⟩
theorem fl_X5_87 : FL RX5 87 9 7 := ⟨_, _, _, _, fc_9, by decide, wd_329⟩
theorem fl_X5_90 : FL RX5 90 9 2 := ⟨_, _, _, _, fc_9, by decide, wd_317⟩
theorem fl_X5_105 : FL RX5 105 4 8 := ⟨_, _, _, _, fc_4, by decide, wd_451⟩
theorem fl_X5_109 : FL RX5 109 4 1 := ⟨_, _, _, _, fc_4, by decide, wd_435⟩
theorem fl_X5_113 : FL RX5 113 9 9 := ⟨_, _, _, _, fc_9, by decide, wd_336⟩
theorem fl_X5_125 : FL RX5 125 4 5 := ⟨_, _, _, _, fc_4, by decide, wd_442⟩
theorem fl_X5_130 : FL RX5 130 4 7 := ⟨_, _, _, _, fc_4, by decide, wd_448⟩
theorem fl_X5_143 : FL RX5 143 4 6 := ⟨_, _, _, _, fc_4, by decide, wd_445⟩
theorem fl_X5_154 : FL RX5 154 9 8 := ⟨_, _, _, _, fc_9, by decide, wd_332⟩
theorem fl_X5_163 : FL RX5 163 5 11 := ⟨_, _, _, _, fc_5, by decide, wd_153⟩
theorem fl_X5_166 : FL RX5 166 5 12 := ⟨_, _, _, _, fc_5, by decide, wd_155⟩
theorem fl_X5_174 : FL RX5 174 4 2 := ⟨_, _, _, _, fc_4, by decide, wd_437⟩
theorem fl_X5_189 : FL RX5 189 9 10 := ⟨_, _, _, _, fc_9, by decide, wd_337⟩
theorem fl_X5_192 : FL RX5 192 9 11 := ⟨_, _, _, _, fc_9, by decide, wd_338⟩
theorem fl_X5_195 : FL RX5 195 4 9 := ⟨_, _, _, _, fc_4, by decide, wd_452⟩
theorem fl_X5_198 : FL RX5 198 4 10 := ⟨_, _, _, _, fc_4, by decide, wd_453⟩
theorem fl_X5_201 : FL RX5 201 4 11 := ⟨_, _, _, _, fc_4, by decide, wd_454⟩
theorem fl_X5_210 : FL RX5 210 5 13 := ⟨_, _, _, _, fc_5, by decide, wd_157⟩
theorem fl_X5_213 : FL RX5 213 5 14 := ⟨_, _, _, _, fc_5, by decide, wd_158⟩
theorem fl_X6_11 : FL RX6 11 6 0 := ⟨_, _, _, _, fc_6, by decide, wd_92⟩
theorem fl_X6_17 : FL RX6 17 6 1 := ⟨_, _, _, _, fc_6, by decide, wd_93⟩
theorem fl_X6_20 : FL RX6 20 6 2 := ⟨_, _, _, _, fc_6, by decide, wd_94⟩
theorem fl_X6_24 : FL RX6 24 6 3 := ⟨_, _, _, _, fc_6, by decide, wd_95⟩
theorem fl_X6_31 : FL RX6 31 6 4 := ⟨_, _, _, _, fc_6, by decide, wd_96⟩
theorem fl_X6_38 : FL RX6 38 6 5 := ⟨_, _, _, _, fc_6, by decide, wd_98⟩
theorem fl_X6_81 : FL RX6 81 6 6 := ⟨_, _, _, _, fc_6, by decide, wd_99⟩
theorem fl_X7_9 : FL RX7 9 7 1 := ⟨_, _, _, _, fc_7, by decide, wd_204⟩
theorem fl_X7_15 : FL RX7 15 7 2 := ⟨_, _, _, _, fc_7, by decide, wd_206⟩
theorem fl_X7_18 : FL RX7 18 7 0 := ⟨_, _, _, _, fc_7, by decide, wd_202⟩
theorem fl_X8_9 : FL RX8 9 8 0 := ⟨_, _, _, _, fc_8, by decide, wd_32⟩
theorem fl_X8_15 : FL RX8 15 8 1 := ⟨_, _, _, _, fc_8, by decide, wd_33⟩
theorem fl_X8_18 : FL RX8 18 8 2 := ⟨_, _, _, _, fc_8, by decide, wd_35⟩
theorem fl_X8_21 : FL RX8 21 8 3 := ⟨_, _, _, _, fc_8, by decide, wd_37⟩
theorem fl_X8_28 : FL RX8 28 8 4 := ⟨_, _, _, _, fc_8, by decide, wd_39⟩
theorem fl_X8_32 : FL RX8 32 8 6 := ⟨_, _, _, _, fc_8, by decide, wd_43⟩
theorem fl_X8_35 : FL RX8 35 8 5 := ⟨_, _, _, _, fc_8, by decide, wd_41⟩
theorem fl_X8_57 : FL RX8 57 8 7 := ⟨_, _, _, _, fc_8, by decide, wd_44⟩
theorem fl_X9_9 : FL RX9 9 9 6 := ⟨_, _, _, _, fc_9, by decide, wd_324⟩
theorem fl_X9_15 : FL RX9 15 9 0 := ⟨_, _, _, _, fc_9, by decide, wd_311⟩
theorem fl_X9_19 : FL RX9 19 9 1 := ⟨_, _, _, _, fc_9, by decide, wd_314⟩
theorem fl_X9_22 : FL RX9 22 9 7 := ⟨_, _, _, _, fc_9, by decide, wd_326⟩
theorem fl_X9_25 : FL RX9 25 9 2 := ⟨_, _, _, _, fc_9, by decide, wd_316⟩
theorem fl_X9_28 : FL RX9 28 9 4 := ⟨_, _, _, _, fc_9, by decide, wd_320⟩
theorem fl_X9_31 : FL RX9 31 9 5 := ⟨_, _, _, _, fc_9, by decide, wd_322⟩
theorem fl_X9_34 : FL RX9 34 9 3 := ⟨_, _, _, _, fc_9, by decide, wd_318⟩
theorem fl_X9_43 : FL RX9 43 9 9 := ⟨_, _, _, _, fc_9, by decide, wd_333⟩
theorem fl_X9_47 : FL RX9 47 4 0 := ⟨_, _, _, _, fc_4, by decide, wd_431⟩
theorem fl_X9_50 : FL RX9 50 4 6 := ⟨_, _, _, _, fc_4, by decide, wd_443⟩
theorem fl_X9_57 : FL RX9 57 9 8 := ⟨_, _, _, _, fc_9, by decide, wd_330⟩
theorem fl_X10_12 : FL RX10 12 10 1 := ⟨_, _, _, _, fc_10, by decide, wd_216⟩
theorem fl_X10_18 : FL RX10 18 10 2 := ⟨_, _, _, _, fc_10, by decide, wd_218⟩
theorem fl_X10_21 : FL RX10 21 10 0 := ⟨_, _, _, _, fc_10, by decide, wd_215⟩
theorem fl_X10_29 : FL RX10 29 7 0 := ⟨_, _, _, _, fc_7, by decide, wd_203⟩
theorem fl_X10_33 : FL RX10 33 7 1 := ⟨_, _, _, _, fc_7, by decide, wd_205⟩
theorem fl_X10_36 : FL RX10 36 7 2 := ⟨_, _, _, _, fc_7, by decide, wd_207⟩
theorem fl_X10_79 : FL RX10 79 5 9 := ⟨_, _, _, _, fc_5, by decide, wd_149⟩
theorem fl_X10_82 : FL RX10 82 5 2 := ⟨_, _, _, _, fc_5, by decide, wd_135⟩
theorem fl_X10_94 : FL RX10 94 5 7 := ⟨_, _, _, _, fc_5, by decide, wd_142⟩
theorem fl_X10_97 : FL RX10 97 5 0 := ⟨_, _, _, _, fc_5, by decide, wd_130⟩
theorem fl_X10_101 : FL RX10 101 9 8 := ⟨_, _, _, _, fc_9, by decide, wd_331⟩
theorem fl_X10_106 : FL RX10 106 9 4 := ⟨_, _, _, _, fc_9, by decide, wd_321⟩
theorem fl_X10_109 : FL RX10 109 9 5 := ⟨_, _, _, _, fc_9, by decide, wd_323⟩
theorem fl_X10_120 : FL RX10 120 5 10 := ⟨_, _, _, _, fc_5, by decide, wd_152⟩
theorem fl_X12_7 : FL RX12 7 12 2 := ⟨_, _, _, _, fc_12, by decide, wd_985⟩
theorem fl_X12_13 : FL RX12 13 12 3 := ⟨_, _, _, _, fc_12, by decide, wd_986⟩
theorem fl_X12_16 : FL RX12 16 12 4 := ⟨_, _, _, _, fc_12, by decide, wd_987⟩
theorem fl_X12_19 : FL RX12 19 12 5 := ⟨_, _, _, _, fc_12, by decide, wd_988⟩
theorem fl_X12_22 : FL RX12 22 12 6 := ⟨_, _, _, _, fc_12, by decide, wd_989⟩
theorem fl_X12_25 : FL RX12 25 12 7 := ⟨_, _, _, _, fc_12, by decide, wd_990⟩
theorem fl_X12_28 : FL RX12 28 12 8 := ⟨_, _, _, _, fc_12, by decide, wd_991⟩
theorem fl_X12_31 : FL RX12 31 12 10 := ⟨_, _, _, _, fc_12, by decide, wd_993⟩
theorem fl_X12_34 : FL RX12 34 12 12 := ⟨_, _, _, _, fc_12, by decide, wd_995⟩
theorem fl_X12_37 : FL RX12 37 12 13 := ⟨_, _, _, _, fc_12, by decide, wd_996⟩
theorem fl_X12_40 : FL RX12 40 12 14 := ⟨_, _, _, _, fc_12, by decide, wd_997⟩
theorem fl_X12_43 : FL RX12 43 12 15 := ⟨_, _, _, _, fc_12, by decide, wd_998⟩
theorem fl_X12_46 : FL RX12 46 12 16 := ⟨_, _, _, _, fc_12, by decide, wd_999⟩
theorem fl_X12_49 : FL RX12 49 12 17 := ⟨_, _, _, _, fc_12, by decide, wd_1000⟩
theorem fl_X12_52 : FL RX12 52 12 18 := ⟨_, _, _, _, fc_12, by decide, wd_1001⟩
theorem fl_X12_56 : FL RX12 56 12 19 := ⟨_, _, _, _, fc_12, by decide, wd_1002⟩
theorem fl_X12_60 : FL RX12 60 12 20 := ⟨_, _, _, _, fc_12, by decide, wd_1003⟩
theorem fl_X12_64 : FL RX12 64 12 24 := ⟨_, _, _, _, fc_12, by decide, wd_1007⟩
theorem fl_X12_67 : FL RX12 67 12 25 := ⟨_, _, _, _, fc_12, by decide, wd_1008⟩
theorem fl_X12_70 : FL RX12 70 12 26 := ⟨_, _, _, _, fc_12, by decide, wd_1009⟩
theorem fl_X12_73 : FL RX12 73 12 27 := ⟨_, _, _, _, fc_12, by decide, wd_1010⟩
theorem fl_X12_76 : FL RX12 76 12 28 := ⟨_, _, _, _, fc_12, by decide, wd_1011⟩
theorem fl_X12_79 : FL RX12 79 12 31 := ⟨_, _, _, _, fc_12, by decide, wd_1014⟩
theorem fl_X12_82 : FL RX12 82 12 32 := ⟨_, _, _, _, fc_12, by decide, wd_1015⟩
theorem fl_X12_85 : FL RX12 85 12 33 := ⟨_, _, _, _, fc_12, by decide, wd_1016⟩
theorem fl_X12_88 : FL RX12 88 12 35 := ⟨_, _, _, _, fc_12, by decide, wd_1018⟩
theorem fl_X12_91 : FL RX12 91 12 36 := ⟨_, _, _, _, fc_12, by decide, wd_1019⟩
theorem fl_X12_95 : FL RX12 95 12 40 := ⟨_, _, _, _, fc_12, by decide, wd_1023⟩
theorem fl_X12_98 : FL RX12 98 12 41 := ⟨_, _, _, _, fc_12, by decide, wd_1024⟩
theorem fl_X12_101 : FL RX12 101 12 42 := ⟨_, _, _, _, fc_12, by decide, wd_1025⟩
theorem fl_X12_104 : FL RX12 104 12 44 := ⟨_, _, _, _, fc_12, by decide, wd_1027⟩
theorem fl_X12_107 : FL RX12 107 12 45 := ⟨_, _, _, _, fc_12, by decide, wd_1028⟩
theorem fl_X12_110 : FL RX12 110 12 46 := ⟨_, _, _, _, fc_12, by decide, wd_1029⟩
theorem fl_X12_113 : FL RX12 113 12 47 := ⟨_, _, _, _, fc_12, by decide, wd_1030⟩
theorem fl_X12_116 : FL RX12 116 12 48 := ⟨_, _, _, _, fc_12, by decide, wd_1031⟩
theorem fl_X12_119 : FL RX12 119 12 54 := ⟨_, _, _, _, fc_12, by decide, wd_1037⟩
theorem fl_X12_122 : FL RX12 122 12 55 := ⟨_, _, _, _, fc_12, by decide, wd_1038⟩
theorem fl_X12_125 : FL RX12 125 12 57 := ⟨_, _, _, _, fc_12, by decide, wd_1040⟩
theorem fl_X12_128 : FL RX12 128 12 58 := ⟨_, _, _, _, fc_12, by decide, wd_1041⟩
theorem fl_X12_131 : FL RX12 131 12 60 := ⟨_, _, _, _, fc_12, by decide, wd_1043⟩
theorem fl_X12_134 : FL RX12 134 12 61 := ⟨_, _, _, _, fc_12, by decide, wd_1044⟩
theorem fl_X12_137 : FL RX12 137 12 62 := ⟨_, _, _, _, fc_12, by decide, wd_1045⟩
theorem fl_X12_140 : FL RX12 140 12 64 := ⟨_, _, _, _, fc_12, by decide, wd_1047⟩
theorem fl_X12_146 : FL RX12 146 12 1 := ⟨_, _, _, _, fc_12, by decide, wd_984⟩
theorem fl_X12_153 : FL RX12 153 12 11 := ⟨_, _, _, _, fc_12, by decide, wd_994⟩
theorem fl_X12_156 : FL RX12 156 12 9 := ⟨_, _, _, _, fc_12, by decide, wd_992⟩
theorem fl_X12_162 : FL RX12 162 12 43 := ⟨_, _, _, _, fc_12, by decide, wd_1026⟩
theorem fl_X12_194 : FL RX12 194 12 23 := ⟨_, _, _, _, fc_12, by decide, wd_1006⟩
theorem fl_X12_211 : FL RX12 211 12 21 := ⟨_, _, _, _, fc_12, by decide, wd_1004⟩
theorem fl_X12_214 : FL RX12 214 12 22 := ⟨_, _, _, _, fc_12, by decide, wd_1005⟩
theorem fl_X12_227 : FL RX12 227 12 29 := ⟨_, _, _, _, fc_12, by decide, wd_1012⟩
theorem fl_X12_230 : FL RX12 230 12 30 := ⟨_, _, _, _, fc_12, by decide, wd_1013⟩
theorem fl_X12_233 : FL RX12 233 12 34 := ⟨_, _, _, _, fc_12, by decide, wd_1017⟩
theorem fl_X12_246 : FL RX12 246 12 37 := ⟨_, _, _, _, fc_12, by decide, wd_1020⟩
theorem fl_X12_249 : FL RX12 249 12 38 := ⟨_, _, _, _, fc_12, by decide, wd_1021⟩
theorem fl_X12_255 : FL RX12 255 12 51 := ⟨_, _, _, _, fc_12, by decide, wd_1034⟩
theorem fl_X12_258 : FL RX12 258 12 39 := ⟨_, _, _, _, fc_12, by decide, wd_1022⟩
theorem fl_X12_265 : FL RX12 265 12 49 := ⟨_, _, _, _, fc_12, by decide, wd_1032⟩
theorem fl_X12_268 : FL RX12 268 12 50 := ⟨_, _, _, _, fc_12, by decide, wd_1033⟩
theorem fl_X12_278 : FL RX12 278 12 52 := ⟨_, _, _, _, fc_12, by decide, wd_1035⟩
theorem fl_X12_281 : FL RX12 281 12 53 := ⟨_, _, _, _, fc_12, by decide, wd_1036⟩
theorem fl_X12_290 : FL RX12 290 12 56 := ⟨_, _, _, _, fc_12, by decide, wd_1039⟩
theorem fl_X12_293 : FL RX12 293 12 59 := ⟨_, _, _, _, fc_12, by decide, wd_1042⟩
theorem fl_X12_308 : FL RX12 308 12 63 := ⟨_, _, _, _, fc_12, by decide, wd_1046⟩
theorem ff_0_0 : FF RX0 0 0 := fun q hq => by cases hq; exact ⟨rfl, rfl⟩
theorem ff_0_1 : FF RX0 0 1 := fun q hq => by cases hq; exact ⟨rfl, rfl⟩
theorem fn_0_2 : FN 0 2 := fun q hq => by cases hq; rfl
theorem fn_0_3 : FN 0 3 := fun q hq => by cases hq; rfl
theorem ff_1_0 : FF RX1 1 0 := fun q hq => by cases hq; exact ⟨rfl, rfl⟩
theorem ff_1_1 : FF RX1 1 1 := fun q hq => by cases hq; exact ⟨rfl, rfl⟩
theorem ff_1_2 : FF RX1 1 2 := fun q hq => by cases hq; exact ⟨rfl, rfl⟩
theorem ff_1_3 : FF RX1 1 3 := fun q hq => by cases hq; exact ⟨rfl, rfl⟩
theorem fn_1_4 : FN 1 4 := fun q hq => by cases hq; rfl
theorem fn_1_5 : FN 1 5 := fun q hq => by cases hq; rfl
theorem fn_1_6 : FN 1 6 := fun q hq => by cases hq; rfl
theorem fn_1_7 : FN 1 7 := fun q hq => by cases hq; rfl
theorem fn_1_8 : FN 1 8 := fun q hq => by cases hq; rfl
theorem ff_2_0 : FF RX2 2 0 := fun q hq => by cases hq; exact ⟨rfl, rfl⟩
theorem ff_2_1 : FF RX2 2 1 := fun q hq => by cases hq; exact ⟨rfl, rfl⟩
theorem ff_3_0 : FF RX3 3 0 := fun q hq => by cases hq; exact ⟨rfl, rfl⟩
theorem ff_3_1 : FF RX3 3 1 := fun q hq => by cases hq; exact ⟨rfl, rfl⟩
theorem ff_3_2 : FF RX3 3 2 := fun q hq => by cases hq; exact ⟨rfl, rfl⟩
theorem ff_4_0 : FF RX4 4 0 := fun q hq => by cases hq; exact ⟨rfl, rfl⟩
theorem ff_4_1 : FF RX4 4 1 := fun q hq => by cases hq; exact ⟨rfl, rfl⟩
theorem ff_4_2 : FF RX4 4 2 := fun q hq => by cases hq; exact ⟨rfl, rfl⟩
theorem ff_4_3 : FF RX4 4 3 := fun q hq => by cases hq; exact ⟨rfl, rfl⟩
theorem ff_4_4 : FF RX4 4 4 := fun q hq => by cases hq; exact ⟨rfl, rfl⟩
theorem fn_4_5 : FN 4 5 := fun q hq => by cases hq; rfl
theorem fn_4_6 : FN 4 6 := fun q hq => by cases hq; rfl
theorem fn_4_7 : FN 4 7 := fun q hq => by cases hq; rfl
theorem fn_4_8 : FN 4 8 := fun q hq => by cases hq; rfl
theorem fn_4_9 : FN 4 9 := fun q hq => by cases hq; rfl
theorem fn_4_10 : FN 4 10 := fun q hq => by cases hq; rfl
theorem fn_4_11 : FN 4 11 := fun q hq => by cases hq; rfl
theorem ff_5_0 : FF RX5 5 0 := fun q hq => by cases hq; exact ⟨rfl, rfl⟩
theorem ff_5_1 : FF RX5 5 1 := fun q hq => by cases hq; exact ⟨rfl, rfl⟩
theorem ff_5_2 : FF RX5 5 2 := fun q hq => by cases hq; exact ⟨rfl, rfl⟩
theorem ff_5_3 : FF RX5 5 3 := fun q hq => by cases hq; exact ⟨rfl, rfl⟩
theorem ff_5_4 : FF RX5 5 4 := fun q hq => by cases hq; exact ⟨rfl, rfl⟩
theorem ff_5_5 : FF RX5 5 5 := fun q hq => by cases hq; exact ⟨rfl, rfl⟩
theorem ff_5_6 : FF RX5 5 6 := fun q hq => by cases hq; exact ⟨rfl, rfl⟩
theorem fn_5_7 : FN 5 7 := fun q hq => by cases hq; rfl
theorem fn_5_8 : FN 5 8 := fun q hq => by cases hq; rfl
theorem fn_5_9 : FN 5 9 := fun q hq => by cases hq; rfl
theorem fn_5_10 : FN 5 10 := fun q hq => by cases hq; rfl
theorem fn_5_11 : FN 5 11 := fun q hq => by cases hq; rfl
theorem fn_5_12 : FN 5 12 := fun q hq => by cases hq; rfl
theorem fn_5_13 : FN 5 13 := fun q hq => by cases hq; rfl
theorem fn_5_14 : FN 5 14 := fun q hq => by cases hq; rfl
theorem ff_6_0 : FF RX6 6 0 := fun q hq => by cases hq; exact ⟨rfl, rfl⟩
theorem ff_6_1 : FF RX6 6 1 := fun q hq => by cases hq; exact ⟨rfl, rfl⟩
theorem ff_6_2 : FF RX6 6 2 := fun q hq => by cases hq; exact ⟨rfl, rfl⟩
theorem ff_6_3 : FF RX6 6 3 := fun q hq => by cases hq; exact ⟨rfl, rfl⟩
theorem fn_6_4 : FN 6 4 := fun q hq => by cases hq; rfl
theorem fn_6_5 : FN 6 5 := fun q hq => by cases hq; rfl
theorem fn_6_6 : FN 6 6 := fun q hq => by cases hq; rfl
theorem fn_7_0 : FN 7 0 := fun q hq => by cases hq; rfl
theorem fn_7_1 : FN 7 1 := fun q hq => by cases hq; rfl
theorem fn_7_2 : FN 7 2 := fun q hq => by cases hq; rfl
theorem ff_8_0 : FF RX8 8 0 := fun q hq => by cases hq; exact ⟨rfl, rfl⟩
theorem ff_8_1 : FF RX8 8 1 := fun q hq => by cases hq; exact ⟨rfl, rfl⟩
theorem ff_8_2 : FF RX8 8 2 := fun q hq => by cases hq; exact ⟨rfl, rfl⟩
theorem ff_8_3 : FF RX8 8 3 := fun q hq => by cases hq; exact ⟨rfl, rfl⟩
theorem fn_8_4 : FN 8 4 := fun q hq => by cases hq; rfl
theorem fn_8_5 : FN 8 5 := fun q hq => by cases hq; rfl
theorem fn_8_6 : FN 8 6 := fun q hq => by cases hq; rfl
theorem fn_8_7 : FN 8 7 := fun q hq => by cases hq; rfl
theorem ff_9_0 : FF RX9 9 0 := fun q hq => by cases hq; exact ⟨rfl, rfl⟩
theorem ff_9_1 : FF RX9 9 1 := fun q hq => by cases hq; exact ⟨rfl, rfl⟩
theorem ff_9_2 : FF RX9 9 2 := fun q hq => by cases hq; exact ⟨rfl, rfl⟩
theorem ff_9_3 : FF RX9 9 3 := fun q hq => by cases hq; exact ⟨rfl, rfl⟩
theorem ff_9_4 : FF RX9 9 4 := fun q hq => by cases hq; exact ⟨rfl, rfl⟩
theorem ff_9_5 : FF RX9 9 5 := fun q hq => by cases hq; exact ⟨rfl, rfl⟩
theorem ff_9_6 : FF RX9 9 6 := fun q hq => by cases hq; exact ⟨rfl, rfl⟩
theorem fn_9_7 : FN 9 7 := fun q hq => by cases hq; rfl
theorem fn_9_8 : FN 9 8 := fun q hq => by cases hq; rfl
theorem fn_9_9 : FN 9 9 := fun q hq => by cases hq; rfl
theorem fn_9_10 : FN 9 10 := fun q hq => by cases hq; rfl
theorem fn_9_11 : FN 9 11 := fun q hq => by cases hq; rfl
theorem ff_10_0 : FF RX10 10 0 := fun q hq => by cases hq; exact ⟨rfl, rfl⟩
theorem ff_10_1 : FF RX10 10 1 := fun q hq => by cases hq; exact ⟨rfl, rfl⟩
theorem ff_10_2 : FF RX10 10 2 := fun q hq => by cases hq; exact ⟨rfl, rfl⟩
theorem ff_11_0 : FF RX11 11 0 := fun q hq => by cases hq; exact ⟨rfl, rfl⟩
theorem ff_11_1 : FF RX11 11 1 := fun q hq => by cases hq; exact ⟨rfl, rfl⟩
theorem ff_11_2 : FF RX11 11 2 := fun q hq => by cases hq; exact ⟨rfl, rfl⟩
theorem ff_11_3 : FF RX11 11 3 := fun q hq => by cases hq; exact ⟨rfl, rfl⟩
theorem ff_11_4 : FF RX11 11 4 := fun q hq => by cases hq; exact ⟨rfl, rfl⟩
theorem ff_11_5 : FF RX11 11 5 := fun q hq => by cases hq; exact ⟨rfl, rfl⟩
theorem fn_11_6 : FN 11 6 := fun q hq => by cases hq; rfl
theorem fn_12_0 : FN 12 0 := fun q hq => by cases hq; rfl
theorem fn_12_1 : FN 12 1 := fun q hq => by cases hq; rfl
theorem ff_12_2 : FF RX12 12 2 := fun q hq => by cases hq; exact ⟨rfl, rfl⟩
theorem ff_12_3 : FF RX12 12 3 := fun q hq => by cases hq; exact ⟨rfl, rfl⟩
theorem ff_12_4 : FF RX12 12 4 := fun q hq => by cases hq; exact ⟨rfl, rfl⟩
theorem ff_12_5 : FF RX12 12 5 := fun q hq => by cases hq; exact ⟨rfl, rfl⟩
theorem ff_12_6 : FF RX12 12 6 := fun q hq => by cases hq; exact ⟨rfl, rfl⟩
theorem ff_12_7 : FF RX12 12 7 := fun q hq => by cases hq; exact ⟨rfl, rfl⟩
theorem ff_12_8 : FF RX12 12 8 := fun q hq => by cases hq; exact ⟨rfl, rfl⟩
theorem fn_12_9 : FN 12 9 := fun q hq => by cases hq; rfl
theorem ff_12_10 : FF RX12 12 10 := fun q hq => by cases hq; exact ⟨rfl, rfl⟩
theorem fn_12_11 : FN 12 11 := fun q hq => by cases hq; rfl
theorem ff_12_12 : FF RX12 12 12 := fun q hq => by cases hq; exact ⟨rfl, rfl⟩
theorem ff_12_13 : FF RX12 12 13 := fun q hq => by cases hq; exact ⟨rfl, rfl⟩
theorem ff_12_14 : FF RX12 12 14 := fun q hq => by cases hq; exact ⟨rfl, rfl⟩
theorem ff_12_15 : FF RX12 12 15 := fun q hq => by cases hq; exact ⟨rfl, rfl⟩
theorem ff_12_16 : FF RX12 12 16 := fun q hq => by cases hq; exact ⟨rfl, rfl⟩
theorem ff_12_17 : FF RX12 12 17 := fun q hq => by cases hq; exact ⟨rfl, rfl⟩
theorem ff_12_18 : FF RX12 12 18 := fun q hq => by cases hq; exact ⟨rfl, rfl⟩
theorem ff_12_19 : FF RX12 12 19 := fun q hq => by cases hq; exact ⟨rfl, rfl⟩
theorem fn_12_20 : FN 12 20 := fun q hq => by cases hq; rfl
theorem fn_12_21 : FN 12 21 := fun q hq => by cases hq; rfl
theorem fn_12_22 : FN 12 22 := fun q hq => by cases hq; rfl
theorem fn_12_23 : FN 12 23 := fun q hq => by cases hq; rfl
theorem fn_12_24 : FN 12 24 := fun q hq => by cases hq; rfl
theorem fn_12_25 : FN 12 25 := fun q hq => by cases hq; rfl
theorem ff_12_26 : FF RX12 12 26 := fun q hq => by cases hq; exact ⟨rfl, rfl⟩
theorem ff_12_27 : FF RX12 12 27 := fun q hq => by cases hq; exact ⟨rfl, rfl⟩
theorem ff_12_28 : FF RX12 12 28 := fun q hq => by cases hq; exact ⟨rfl, rfl⟩
theorem fn_12_29 : FN 12 29 := fun q hq => by cases hq; rfl
theorem fn_12_30 : FN 12 30 := fun q hq => by cases hq; rfl
theorem ff_12_31 : FF RX12 12 31 := fun q hq => by cases hq; exact ⟨rfl, rfl⟩
theorem ff_12_32 : FF RX12 12 32 := fun q hq => by cases hq; exact ⟨rfl, rfl⟩
theorem ff_12_33 : FF RX12 12 33 := fun q hq => by cases hq; exact ⟨rfl, rfl⟩
theorem fn_12_34 : FN 12 34 := fun q hq => by cases hq; rfl
theorem ff_12_35 : FF RX12 12 35 := fun q hq => by cases hq; exact ⟨rfl, rfl⟩
theorem ff_12_36 : FF RX12 12 36 := fun q hq => by cases hq; exact ⟨rfl, rfl⟩
theorem fn_12_37 : FN 12 37 := fun q hq => by cases hq; rfl
theorem fn_12_38 : FN 12 38 := fun q hq => by cases hq; rfl
theorem fn_12_39 : FN 12 39 := fun q hq => by cases hq; rfl
theorem ff_12_40 : FF RX12 12 40 := fun q hq => by cases hq; exact ⟨rfl, rfl⟩
theorem ff_12_41 : FF RX12 12 41 := fun q hq => by cases hq; exact ⟨rfl, rfl⟩
theorem ff_12_42 : FF RX12 12 42 := fun q hq => by cases hq; exact ⟨rfl, rfl⟩
theorem fn_12_43 : FN 12 43 := fun q hq => by cases hq; rfl
theorem ff_12_44 : FF RX12 12 44 := fun q hq => by cases hq; exact ⟨rfl, rfl⟩
theorem ff_12_45 : FF RX12 12 45 := fun q hq => by cases hq; exact ⟨rfl, rfl⟩
theorem ff_12_46 : FF RX12 12 46 := fun q hq => by cases hq; exact ⟨rfl, rfl⟩
theorem ff_12_47 : FF RX12 12 47 := fun q hq => by cases hq; exact ⟨rfl, rfl⟩
theorem ff_12_48 : FF RX12 12 48 := fun q hq => by cases hq; exact ⟨rfl, rfl⟩
theorem fn_12_49 : FN 12 49 := fun q hq => by cases hq; rfl
theorem fn_12_50 : FN 12 50 := fun q hq => by cases hq; rfl
theorem fn_12_51 : FN 12 51 := fun q hq => by cases hq; rfl
theorem fn_12_52 : FN 12 52 := fun q hq => by cases hq; rfl
theorem fn_12_53 : FN 12 53 := fun q hq => by cases hq; rfl
theorem ff_12_54 : FF RX12 12 54 := fun q hq => by cases hq; exact ⟨rfl, rfl⟩
theorem ff_12_55 : FF RX12 12 55 := fun q hq => by cases hq; exact ⟨rfl, rfl⟩
theorem fn_12_56 : FN 12 56 := fun q hq => by cases hq; rfl
theorem ff_12_57 : FF RX12 12 57 := fun q hq => by cases hq; exact ⟨rfl, rfl⟩
theorem ff_12_58 : FF RX12 12 58 := fun q hq => by cases hq; exact ⟨rfl, rfl⟩
theorem fn_12_59 : FN 12 59 := fun q hq => by cases hq; rfl
theorem ff_12_60 : FF RX12 12 60 := fun q hq => by cases hq; exact ⟨rfl, rfl⟩
theorem ff_12_61 : FF RX12 12 61 := fun q hq => by cases hq; exact ⟨rfl, rfl⟩
theorem ff_12_62 : FF RX12 12 62 := fun q hq => by cases hq; exact ⟨rfl, rfl⟩
theorem fn_12_63 : FN 12 63 := fun q hq => by cases hq; rfl
theorem ff_12_64 : FF RX12 12 64 := fun q hq => by cases hq; exact ⟨rfl, rfl⟩
theorem mcX0_init : MC yX0_init cX0_init 1 none 0 := ⟨wd_67, wd_3, by decide +kernel⟩
theorem mcX0_add : MC yX0_add cX0_add 2 (some .int) 1 := ⟨wd_848, wd_3, by decide +kernel⟩
theorem mcX0_pass : MC yX0_pass cX0_pass 2 (some .int) 1 := ⟨wd_857, wd_3, by decide +kernel⟩
theorem mcX0_renew : MC yX0_renew cX0_renew 4 (some .int) 1 := ⟨wd_865, wd_3, by decide +kernel⟩
theorem mcX0_tell : MC yX0_tell cX0_tell 2 (some .int) 1 := ⟨wd_873, wd_3, by decide +kernel⟩
theorem mcX0_burning : MC yX0_burning cX0_burning 3 (some .int) 0 := ⟨wd_877, wd_3, by decide +kernel⟩
theorem mcX0_leastLeft : MC yX0_leastLeft cX0_leastLeft 4 (some .int) 0 := ⟨wd_881, wd_3, by decide +kernel⟩
theorem mcX1_init : MC yX1_init cX1_init 2 none 1 := ⟨wd_230, wd_8, by decide +kernel⟩
theorem mcX1_plan : MC yX1_plan cX1_plan 7 (some .int) 2 := ⟨wd_707, wd_8, by decide +kernel⟩
theorem mcX1_findTie : MC yX1_findTie cX1_findTie 8 (some .boolean) 3 := ⟨wd_714, wd_8, by decide +kernel⟩
theorem mcX1_findDrum : MC yX1_findDrum cX1_findDrum 5 (some .int) 3 := ⟨wd_719, wd_8, by decide +kernel⟩
theorem mcX1_countWorks : MC yX1_countWorks cX1_countWorks 3 none 0 := ⟨wd_724, wd_8, by decide +kernel⟩
theorem mcX1_isReady : MC yX1_isReady cX1_isReady 3 (some .boolean) 2 := ⟨wd_728, wd_8, by decide +kernel⟩
theorem mcX1_tieOf : MC yX1_tieOf cX1_tieOf 4 (some .int) 2 := ⟨wd_736, wd_8, by decide +kernel⟩
theorem mcX1_workFor : MC yX1_workFor cX1_workFor 2 (some .int) 1 := ⟨wd_745, wd_8, by decide +kernel⟩
theorem mcX1_works : MC yX1_works cX1_works 1 (some .int) 0 := ⟨wd_749, wd_8, by decide +kernel⟩
theorem mcX1_leastMen : MC yX1_leastMen cX1_leastMen 2 (some .int) 1 := ⟨wd_757, wd_8, by decide +kernel⟩
theorem mcX1_longestWork : MC yX1_longestWork cX1_longestWork 1 (some .int) 0 := ⟨wd_761, wd_8, by decide +kernel⟩
theorem mcX1_shareOut : MC yX1_shareOut cX1_shareOut 6 (some .int) 1 := ⟨wd_765, wd_8, by decide +kernel⟩
theorem mcX1_leastShare : MC yX1_leastShare cX1_leastShare 6 (some .int) 4 := ⟨wd_769, wd_8, by decide +kernel⟩
theorem mcX1_withWork : MC yX1_withWork cX1_withWork 5 (some .int) 3 := ⟨wd_777, wd_8, by decide +kernel⟩
theorem mcX1_slot : MC yX1_slot cX1_slot 4 (some .int) 3 := ⟨wd_773, wd_8, by decide +kernel⟩
theorem mcX2_init : MC yX2_init cX2_init 3 none 2 := ⟨wd_403, wd_12, by decide +kernel⟩
theorem mcX3_init : MC yX3_init cX3_init 3 none 2 := ⟨wd_897, wd_16, by decide +kernel⟩
theorem mcX3_area : MC yX3_area cX3_area 1 (some .int) 0 := ⟨wd_955, wd_16, by decide +kernel⟩
theorem mcX3_serves : MC yX3_serves cX3_serves 2 (some .boolean) 1 := ⟨wd_947, wd_16, by decide +kernel⟩
theorem mcX3_priceFor : MC yX3_priceFor cX3_priceFor 3 (some .int) 1 := ⟨wd_951, wd_16, by decide +kernel⟩
theorem mcX4_init : MC yX4_init cX4_init 6 none 5 := ⟨wd_428, wd_13, by decide +kernel⟩
theorem mcX4_tell : MC yX4_tell cX4_tell 2 (some .int) 1 := ⟨wd_492, wd_13, by decide +kernel⟩
theorem mcX4_load : MC yX4_load cX4_load 1 (some .int) 0 := ⟨wd_496, wd_13, by decide +kernel⟩
theorem mcX4_spare : MC yX4_spare cX4_spare 1 (some .int) 0 := ⟨wd_517, wd_13, by decide +kernel⟩
theorem mcX4_placeFrom : MC yX4_placeFrom cX4_placeFrom 3 (some .int) 2 := ⟨wd_570, wd_13, by decide +kernel⟩
theorem mcX4_doneAfter : MC yX4_doneAfter cX4_doneAfter 2 (some .int) 1 := ⟨wd_566, wd_13, by decide +kernel⟩
theorem mcX4_pullAt : MC yX4_pullAt cX4_pullAt 2 (some .int) 1 := ⟨wd_581, wd_13, by decide +kernel⟩
theorem mcX4_stepsToNextPlace : MC yX4_stepsToNextPlace cX4_stepsToNextPlace 7 (some .int) 2 := ⟨wd_632, wd_13, by decide +kernel⟩
theorem mcX4_advance : MC yX4_advance cX4_advance 2 none 1 := ⟨wd_646, wd_13, by decide +kernel⟩
theorem mcX4_bind : MC yX4_bind cX4_bind 2 none 1 := ⟨wd_521, wd_13, by decide +kernel⟩
theorem mcX4_loosen : MC yX4_loosen cX4_loosen 1 none 0 := ⟨wd_534, wd_13, by decide +kernel⟩
theorem mcX5_init : MC yX5_init cX5_init 1 none 0 := ⟨wd_119, wd_5, by decide +kernel⟩
theorem mcX5_thingNumbered : MC yX5_thingNumbered cX5_thingNumbered 2 (Option.some (FieldType.object "StageMachine$Thing")) 1 := ⟨wd_375, wd_5, by decide +kernel⟩
theorem mcX5_drumNumbered : MC yX5_drumNumbered cX5_drumNumbered 2 (Option.some (FieldType.object "StageMachine$Drum")) 1 := ⟨wd_513, wd_5, by decide +kernel⟩
theorem mcX5_ropeNumbered : MC yX5_ropeNumbered cX5_ropeNumbered 2 (Option.some (FieldType.object "StageMachine$Rope")) 1 := ⟨wd_487, wd_5, by decide +kernel⟩
theorem mcX5_addThing : MC yX5_addThing cX5_addThing 11 (some .int) 4 := ⟨wd_289, wd_5, by decide +kernel⟩
theorem mcX5_addDrum : MC yX5_addDrum cX5_addDrum 2 (some .int) 1 := ⟨wd_399, wd_5, by decide +kernel⟩
theorem mcX5_addRope : MC yX5_addRope cX5_addRope 8 (some .int) 3 := ⟨wd_423, wd_5, by decide +kernel⟩
theorem mcX5_standingOn : MC yX5_standingOn cX5_standingOn 4 (some .int) 1 := ⟨wd_387, wd_5, by decide +kernel⟩
theorem mcX5_isClear : MC yX5_isClear cX5_isClear 8 (some .boolean) 4 := ⟨wd_299, wd_5, by decide +kernel⟩
theorem mcX5_tieRope : MC yX5_tieRope cX5_tieRope 5 (some .int) 2 := ⟨wd_508, wd_5, by decide +kernel⟩
theorem mcX5_untieRope : MC yX5_untieRope cX5_untieRope 4 (some .int) 1 := ⟨wd_529, wd_5, by decide +kernel⟩
theorem mcX5_tiedCount : MC yX5_tiedCount cX5_tiedCount 3 (some .int) 0 := ⟨wd_976, wd_5, by decide +kernel⟩
theorem mcX5_setWeight : MC yX5_setWeight cX5_setWeight 4 (some .int) 2 := ⟨wd_542, wd_5, by decide +kernel⟩
theorem mcX5_setBound : MC yX5_setBound cX5_setBound 3 (some .int) 1 := ⟨wd_550, wd_5, by decide +kernel⟩
theorem mcX5_pullNow : MC yX5_pullNow cX5_pullNow 1 (some .int) 0 := ⟨wd_558, wd_5, by decide +kernel⟩
theorem mcX5_place : MC yX5_place cX5_place 5 none 1 := ⟨wd_562, wd_5, by decide +kernel⟩
theorem mcX5_trialPull : MC yX5_trialPull cX5_trialPull 3 (some .int) 0 := ⟨wd_577, wd_5, by decide +kernel⟩
theorem mcX5_advance : MC yX5_advance cX5_advance 3 none 1 := ⟨wd_642, wd_5, by decide +kernel⟩
theorem mcX5_breakRope : MC yX5_breakRope cX5_breakRope 4 (some .int) 1 := ⟨wd_670, wd_5, by decide +kernel⟩
theorem mcX5_fall : MC yX5_fall cX5_fall 5 (some .int) 3 := ⟨wd_674, wd_5, by decide +kernel⟩
theorem mcX5_canFall : MC yX5_canFall cX5_canFall 3 (some .boolean) 2 := ⟨wd_678, wd_5, by decide +kernel⟩
theorem mcX5_isCatch : MC yX5_isCatch cX5_isCatch 4 (some .boolean) 2 := ⟨wd_682, wd_5, by decide +kernel⟩
theorem mcX5_addCatch : MC yX5_addCatch cX5_addCatch 4 (some .int) 1 := ⟨wd_690, wd_5, by decide +kernel⟩
theorem mcX5_isStagePlace : MC yX5_isStagePlace cX5_isStagePlace 1 (some .boolean) 1 := ⟨wd_295, wd_5, by decide +kernel⟩
theorem mcX5_keep : MC yX5_keep cX5_keep 3 none 0 := ⟨wd_824, wd_5, by decide +kernel⟩
theorem mcX5_restore : MC yX5_restore cX5_restore 3 none 0 := ⟨wd_840, wd_5, by decide +kernel⟩
theorem mcX6_init : MC yX6_init cX6_init 1 none 0 := ⟨wd_88, wd_4, by decide +kernel⟩
theorem mcX6_addFlat : MC yX6_addFlat cX6_addFlat 3 (some .int) 2 := ⟨wd_889, wd_4, by decide +kernel⟩
theorem mcX6_addWant : MC yX6_addWant cX6_addWant 3 (some .int) 2 := ⟨wd_916, wd_4, by decide +kernel⟩
theorem mcX6_isPanel : MC yX6_isPanel cX6_isPanel 2 (some .boolean) 2 := ⟨wd_892, wd_4, by decide +kernel⟩
theorem mcX6_leastPainting : MC yX6_leastPainting cX6_leastPainting 2 (some .int) 0 := ⟨wd_924, wd_4, by decide +kernel⟩
theorem mcX6_leastSum : MC yX6_leastSum cX6_leastSum 3 (some .int) 0 := ⟨wd_929, wd_4, by decide +kernel⟩
theorem mcX6_leastSumBehind : MC yX6_leastSumBehind cX6_leastSumBehind 5 (some .int) 2 := ⟨wd_939, wd_4, by decide +kernel⟩
theorem mcX6_sumWith : MC yX6_sumWith cX6_sumWith 5 (some .int) 3 := ⟨wd_943, wd_4, by decide +kernel⟩
theorem mcX6_give : MC yX6_give cX6_give 4 none 0 := ⟨wd_960, wd_4, by decide +kernel⟩
theorem mcX6_givenTo : MC yX6_givenTo cX6_givenTo 2 (some .int) 1 := ⟨wd_968, wd_4, by decide +kernel⟩
theorem mcX7_init : MC yX7_init cX7_init 1 none 0 := ⟨wd_200, wd_7, by decide +kernel⟩
theorem mcX7_put : MC yX7_put cX7_put 4 none 3 := ⟨wd_604, wd_7, by decide +kernel⟩
theorem mcX7_tell : MC yX7_tell cX7_tell 2 (some .int) 1 := ⟨wd_657, wd_7, by decide +kernel⟩
theorem mcX8_init : MC yX8_init cX8_init 1 none 0 := ⟨wd_30, wd_2, by decide +kernel⟩
theorem mcX8_take : MC yX8_take cX8_take 4 (some .int) 2 := ⟨wd_787, wd_2, by decide +kernel⟩
theorem mcX8_readLines : MC yX8_readLines cX8_readLines 1 (some .int) 0 := ⟨wd_796, wd_2, by decide +kernel⟩
theorem mcX8_readLine : MC yX8_readLine cX8_readLine 3 (some .boolean) 1 := ⟨wd_800, wd_2, by decide +kernel⟩
theorem mcX8_readOne : MC yX8_readOne cX8_readOne 3 (some .boolean) 2 := ⟨wd_820, wd_2, by decide +kernel⟩
theorem mcX8_readTwo : MC yX8_readTwo cX8_readTwo 3 (some .boolean) 2 := ⟨wd_808, wd_2, by decide +kernel⟩
theorem mcX8_readNumber : MC yX8_readNumber cX8_readNumber 4 (some .boolean) 1 := ⟨wd_812, wd_2, by decide +kernel⟩
theorem mcX8_readSign : MC yX8_readSign cX8_readSign 2 (some .boolean) 1 := ⟨wd_816, wd_2, by decide +kernel⟩
theorem mcX8_peek : MC yX8_peek cX8_peek 1 (some .int) 0 := ⟨wd_804, wd_2, by decide +kernel⟩
theorem mcX9_init : MC yX9_init cX9_init 8 none 7 := ⟨wd_306, wd_10, by decide +kernel⟩
theorem mcX9_tell : MC yX9_tell cX9_tell 2 (some .int) 1 := ⟨wd_379, wd_10, by decide +kernel⟩
theorem mcX9_tellScene : MC yX9_tellScene cX9_tellScene 5 (some .int) 2 := ⟨wd_698, wd_10, by decide +kernel⟩
theorem mcX9_covers : MC yX9_covers cX9_covers 2 (some .boolean) 1 := ⟨wd_391, wd_10, by decide +kernel⟩
theorem mcX9_wouldMeet : MC yX9_wouldMeet cX9_wouldMeet 2 (some .boolean) 1 := ⟨wd_618, wd_10, by decide +kernel⟩
theorem mcX10_init : MC yX10_init cX10_init 2 none 1 := ⟨wd_194, wd_6, by decide +kernel⟩
theorem mcX10_turnBy : MC yX10_turnBy cX10_turnBy 3 (some .int) 1 := ⟨wd_593, wd_6, by decide +kernel⟩
theorem mcX10_lookAhead : MC yX10_lookAhead cX10_lookAhead 5 (some .int) 1 := ⟨wd_597, wd_6, by decide +kernel⟩
theorem mcX10_stepsToNextMove : MC yX10_stepsToNextMove cX10_stepsToNextMove 5 (some .int) 2 := ⟨wd_628, wd_6, by decide +kernel⟩
theorem mcX10_isBeyond : MC yX10_isBeyond cX10_isBeyond 3 (some .boolean) 0 := ⟨wd_609, wd_6, by decide +kernel⟩
theorem mcX10_isMeeting : MC yX10_isMeeting cX10_isMeeting 3 (some .boolean) 0 := ⟨wd_614, wd_6, by decide +kernel⟩
theorem mcX10_isUneven : MC yX10_isUneven cX10_isUneven 2 (some .boolean) 1 := ⟨wd_624, wd_6, by decide +kernel⟩
theorem mcX11_init : MC yX11_init cX11_init 2 none 0 := ⟨wd_22, wd_1, by decide +kernel⟩
theorem mcX11_thing : MC yX11_thing cX11_thing 6 (some .int) 4 := ⟨wd_285, wd_1, by decide +kernel⟩
theorem mcX11_ofThing : MC yX11_ofThing cX11_ofThing 4 (some .int) 2 := ⟨wd_371, wd_1, by decide +kernel⟩
theorem mcX11_on : MC yX11_on cX11_on 2 (some .int) 1 := ⟨wd_383, wd_1, by decide +kernel⟩
theorem mcX11_drum : MC yX11_drum cX11_drum 3 (some .int) 1 := ⟨wd_395, wd_1, by decide +kernel⟩
theorem mcX11_rope : MC yX11_rope cX11_rope 5 (some .int) 3 := ⟨wd_419, wd_1, by decide +kernel⟩
theorem mcX11_ofRope : MC yX11_ofRope cX11_ofRope 4 (some .int) 2 := ⟨wd_483, wd_1, by decide +kernel⟩
theorem mcX11_tie : MC yX11_tie cX11_tie 4 (some .int) 2 := ⟨wd_504, wd_1, by decide +kernel⟩
theorem mcX11_untie : MC yX11_untie cX11_untie 3 (some .int) 1 := ⟨wd_525, wd_1, by decide +kernel⟩
theorem mcX11_weight : MC yX11_weight cX11_weight 4 (some .int) 2 := ⟨wd_538, wd_1, by decide +kernel⟩
theorem mcX11_bound : MC yX11_bound cX11_bound 2 (some .int) 1 := ⟨wd_546, wd_1, by decide +kernel⟩
theorem mcX11_pull : MC yX11_pull cX11_pull 1 (some .int) 0 := ⟨wd_554, wd_1, by decide +kernel⟩
theorem mcX11_turn : MC yX11_turn cX11_turn 3 (some .int) 1 := ⟨wd_585, wd_1, by decide +kernel⟩
theorem mcX11_stopped : MC yX11_stopped cX11_stopped 2 (some .int) 1 := ⟨wd_653, wd_1, by decide +kernel⟩
theorem mcX11_free : MC yX11_free cX11_free 2 (some .int) 1 := ⟨wd_661, wd_1, by decide +kernel⟩
theorem mcX11_snap : MC yX11_snap cX11_snap 3 (some .int) 1 := ⟨wd_666, wd_1, by decide +kernel⟩
theorem mcX11_hold : MC yX11_hold cX11_hold 2 (some .int) 1 := ⟨wd_686, wd_1, by decide +kernel⟩
theorem mcX11_scene : MC yX11_scene cX11_scene 5 (some .int) 3 := ⟨wd_694, wd_1, by decide +kernel⟩
theorem mcX11_change : MC yX11_change cX11_change 3 (some .int) 2 := ⟨wd_703, wd_1, by decide +kernel⟩
theorem mcX11_told : MC yX11_told cX11_told 3 (some .int) 2 := ⟨wd_732, wd_1, by decide +kernel⟩
theorem mcX11_work : MC yX11_work cX11_work 2 (some .int) 1 := ⟨wd_741, wd_1, by decide +kernel⟩
theorem mcX11_men : MC yX11_men cX11_men 2 (some .int) 1 := ⟨wd_753, wd_1, by decide +kernel⟩
theorem mcX11_feed : MC yX11_feed cX11_feed 3 (some .int) 2 := ⟨wd_783, wd_1, by decide +kernel⟩
theorem mcX11_play : MC yX11_play cX11_play 4 (some .int) 0 := ⟨wd_792, wd_1, by decide +kernel⟩
theorem mcX11_back : MC yX11_back cX11_back 1 (some .int) 0 := ⟨wd_836, wd_1, by decide +kernel⟩
theorem mcX11_candle : MC yX11_candle cX11_candle 2 (some .int) 1 := ⟨wd_844, wd_1, by decide +kernel⟩
theorem mcX11_minutes : MC yX11_minutes cX11_minutes 2 (some .int) 1 := ⟨wd_853, wd_1, by decide +kernel⟩
theorem mcX11_trim : MC yX11_trim cX11_trim 2 (some .int) 1 := ⟨wd_861, wd_1, by decide +kernel⟩
theorem mcX11_light : MC yX11_light cX11_light 2 (some .int) 1 := ⟨wd_869, wd_1, by decide +kernel⟩
theorem mcX11_flat : MC yX11_flat cX11_flat 3 (some .int) 2 := ⟨wd_885, wd_1, by decide +kernel⟩
theorem mcX11_want : MC yX11_want cX11_want 3 (some .int) 2 := ⟨wd_912, wd_1, by decide +kernel⟩
theorem mcX11_paint : MC yX11_paint cX11_paint 1 (some .int) 0 := ⟨wd_920, wd_1, by decide +kernel⟩
theorem mcX11_given : MC yX11_given cX11_given 2 (some .int) 1 := ⟨wd_964, wd_1, by decide +kernel⟩
theorem mcX11_count : MC yX11_count cX11_count 2 (some .int) 1 := ⟨wd_972, wd_1, by decide +kernel⟩
theorem mcX11_deed : MC yX11_deed cX11_deed 3 (some .int) 2 := ⟨wd_367, wd_1, by decide +kernel⟩
theorem mcX11_playLine : MC yX11_playLine cX11_playLine 4 (some .int) 1 := ⟨wd_831, wd_1, by decide +kernel⟩
theorem mcX11_isTurn : MC yX11_isTurn cX11_isTurn 1 (some .boolean) 1 := ⟨wd_588, wd_1, by decide +kernel⟩
theorem mcX11_isWithin : MC yX11_isWithin cX11_isWithin 3 (some .boolean) 3 := ⟨wd_292, wd_1, by decide +kernel⟩
theorem mcX11_quotient : MC yX11_quotient cX11_quotient 2 (some .int) 2 := ⟨wd_573, wd_1, by decide +kernel⟩
theorem mcX11_quotientUp : MC yX11_quotientUp cX11_quotientUp 2 (some .int) 2 := ⟨wd_499, wd_1, by decide +kernel⟩
theorem mcX11_overlap : MC yX11_overlap cX11_overlap 4 (some .boolean) 4 := ⟨wd_302, wd_1, by decide +kernel⟩
theorem mcX12_init : MC yX12_init cX12_init 1 none 0 := ⟨wd_981, wd_9, by decide +kernel⟩
theorem mcX12_in : MC yX12_in cX12_in 3 (some .boolean) 3 := ⟨wd_1187, wd_9, by decide +kernel⟩
theorem mcX12_isThing : MC yX12_isThing cX12_isThing 2 (some .boolean) 1 := ⟨wd_1195, wd_9, by decide +kernel⟩
theorem mcX12_isRope : MC yX12_isRope cX12_isRope 2 (some .boolean) 1 := ⟨wd_1219, wd_9, by decide +kernel⟩
theorem mcX12_isDrum : MC yX12_isDrum cX12_isDrum 2 (some .boolean) 1 := ⟨wd_1236, wd_9, by decide +kernel⟩
theorem mcX12_meets : MC yX12_meets cX12_meets 4 (some .boolean) 3 := ⟨wd_1287, wd_9, by decide +kernel⟩
theorem mcX12_other : MC yX12_other cX12_other 4 (some .int) 2 := ⟨wd_1283, wd_9, by decide +kernel⟩
theorem mcX12_thing : MC yX12_thing cX12_thing 8 (some .int) 4 := ⟨wd_1184, wd_9, by decide +kernel⟩
theorem mcX12_tiedTo : MC yX12_tiedTo cX12_tiedTo 3 (some .int) 1 := ⟨wd_1199, wd_9, by decide +kernel⟩
theorem mcX12_ofThing : MC yX12_ofThing cX12_ofThing 3 (some .int) 2 := ⟨wd_1191, wd_9, by decide +kernel⟩
theorem mcX12_on : MC yX12_on cX12_on 3 (some .int) 1 := ⟨wd_1203, wd_9, by decide +kernel⟩
theorem mcX12_drum : MC yX12_drum cX12_drum 2 (some .int) 1 := ⟨wd_1207, wd_9, by decide +kernel⟩
theorem mcX12_rope : MC yX12_rope cX12_rope 4 (some .int) 3 := ⟨wd_1211, wd_9, by decide +kernel⟩
theorem mcX12_load : MC yX12_load cX12_load 2 (some .int) 1 := ⟨wd_1224, wd_9, by decide +kernel⟩
theorem mcX12_ofRope : MC yX12_ofRope cX12_ofRope 3 (some .int) 2 := ⟨wd_1215, wd_9, by decide +kernel⟩
theorem mcX12_tieNow : MC yX12_tieNow cX12_tieNow 3 (some .int) 2 := ⟨wd_1232, wd_9, by decide +kernel⟩
theorem mcX12_tie : MC yX12_tie cX12_tie 4 (some .int) 2 := ⟨wd_1228, wd_9, by decide +kernel⟩
theorem mcX12_untieNow : MC yX12_untieNow cX12_untieNow 2 (some .int) 1 := ⟨wd_1244, wd_9, by decide +kernel⟩
theorem mcX12_untie : MC yX12_untie cX12_untie 3 (some .int) 1 := ⟨wd_1240, wd_9, by decide +kernel⟩
theorem mcX12_weighNow : MC yX12_weighNow cX12_weighNow 4 (some .int) 2 := ⟨wd_1252, wd_9, by decide +kernel⟩
theorem mcX12_weight : MC yX12_weight cX12_weight 4 (some .int) 2 := ⟨wd_1248, wd_9, by decide +kernel⟩
theorem mcX12_bound : MC yX12_bound cX12_bound 3 (some .int) 1 := ⟨wd_1256, wd_9, by decide +kernel⟩
theorem mcX12_pull : MC yX12_pull cX12_pull 4 (some .int) 0 := ⟨wd_1260, wd_9, by decide +kernel⟩
theorem mcX12_place : MC yX12_place cX12_place 4 none 1 := ⟨wd_1275, wd_9, by decide +kernel⟩
theorem mcX12_find : MC yX12_find cX12_find 2 none 0 := ⟨wd_1279, wd_9, by decide +kernel⟩
theorem mcX12_turnNow : MC yX12_turnNow cX12_turnNow 5 (some .int) 1 := ⟨wd_1271, wd_9, by decide +kernel⟩
theorem mcX12_isTurn : MC yX12_isTurn cX12_isTurn 1 (some .boolean) 1 := ⟨wd_1267, wd_9, by decide +kernel⟩
theorem mcX12_turn : MC yX12_turn cX12_turn 3 (some .int) 1 := ⟨wd_1264, wd_9, by decide +kernel⟩
theorem mcX12_stopped : MC yX12_stopped cX12_stopped 2 (some .int) 1 := ⟨wd_1292, wd_9, by decide +kernel⟩
theorem mcX12_free : MC yX12_free cX12_free 9 (some .int) 1 := ⟨wd_1296, wd_9, by decide +kernel⟩
theorem mcX12_isCaught : MC yX12_isCaught cX12_isCaught 4 (some .boolean) 2 := ⟨wd_1304, wd_9, by decide +kernel⟩
theorem mcX12_hold : MC yX12_hold cX12_hold 3 (some .int) 1 := ⟨wd_1300, wd_9, by decide +kernel⟩
theorem mcX12_snap : MC yX12_snap cX12_snap 5 (some .int) 1 := ⟨wd_1308, wd_9, by decide +kernel⟩
theorem mcX12_scene : MC yX12_scene cX12_scene 5 (some .int) 3 := ⟨wd_1312, wd_9, by decide +kernel⟩
theorem mcX12_brings : MC yX12_brings cX12_brings 6 (some .boolean) 3 := ⟨wd_1320, wd_9, by decide +kernel⟩
theorem mcX12_workOf : MC yX12_workOf cX12_workOf 3 (some .int) 1 := ⟨wd_1324, wd_9, by decide +kernel⟩
theorem mcX12_change : MC yX12_change cX12_change 6 (some .int) 2 := ⟨wd_1316, wd_9, by decide +kernel⟩
theorem mcX12_told : MC yX12_told cX12_told 3 (some .int) 2 := ⟨wd_1328, wd_9, by decide +kernel⟩
theorem mcX12_work : MC yX12_work cX12_work 4 (some .int) 1 := ⟨wd_1332, wd_9, by decide +kernel⟩
theorem mcX12_menFor : MC yX12_menFor cX12_menFor 13 (some .int) 4 := ⟨wd_1340, wd_9, by decide +kernel⟩
theorem mcX12_men : MC yX12_men cX12_men 6 (some .int) 1 := ⟨wd_1336, wd_9, by decide +kernel⟩
theorem mcX12_feed : MC yX12_feed cX12_feed 4 (some .int) 2 := ⟨wd_1344, wd_9, by decide +kernel⟩
theorem mcX12_look : MC yX12_look cX12_look 1 (some .int) 0 := ⟨wd_1356, wd_9, by decide +kernel⟩
theorem mcX12_takes : MC yX12_takes cX12_takes 4 (some .boolean) 1 := ⟨wd_1360, wd_9, by decide +kernel⟩
theorem mcX12_line : MC yX12_line cX12_line 2 (some .boolean) 0 := ⟨wd_1352, wd_9, by decide +kernel⟩
theorem mcX12_keep : MC yX12_keep cX12_keep 2 none 0 := ⟨wd_1364, wd_9, by decide +kernel⟩
theorem mcX12_play : MC yX12_play cX12_play 5 (some .int) 0 := ⟨wd_1348, wd_9, by decide +kernel⟩
theorem mcX12_back : MC yX12_back cX12_back 2 (some .int) 0 := ⟨wd_1368, wd_9, by decide +kernel⟩
theorem mcX12_left : MC yX12_left cX12_left 2 (some .int) 1 := ⟨wd_1384, wd_9, by decide +kernel⟩
theorem mcX12_candle : MC yX12_candle cX12_candle 2 (some .int) 1 := ⟨wd_1372, wd_9, by decide +kernel⟩
theorem mcX12_minutes : MC yX12_minutes cX12_minutes 2 (some .int) 1 := ⟨wd_1376, wd_9, by decide +kernel⟩
theorem mcX12_trim : MC yX12_trim cX12_trim 4 (some .int) 1 := ⟨wd_1380, wd_9, by decide +kernel⟩
theorem mcX12_light : MC yX12_light cX12_light 5 (some .int) 1 := ⟨wd_1388, wd_9, by decide +kernel⟩
theorem mcX12_isSize : MC yX12_isSize cX12_isSize 1 (some .boolean) 1 := ⟨wd_1395, wd_9, by decide +kernel⟩
theorem mcX12_flat : MC yX12_flat cX12_flat 3 (some .int) 2 := ⟨wd_1392, wd_9, by decide +kernel⟩
theorem mcX12_want : MC yX12_want cX12_want 3 (some .int) 2 := ⟨wd_1399, wd_9, by decide +kernel⟩
theorem mcX12_area : MC yX12_area cX12_area 1 (some .int) 1 := ⟨wd_1410, wd_9, by decide +kernel⟩
theorem mcX12_cost : MC yX12_cost cX12_cost 3 (some .int) 2 := ⟨wd_1407, wd_9, by decide +kernel⟩
theorem mcX12_isTaken : MC yX12_isTaken cX12_isTaken 3 (some .boolean) 1 := ⟨wd_1414, wd_9, by decide +kernel⟩
theorem mcX12_costTo : MC yX12_costTo cX12_costTo 4 (some .int) 1 := ⟨wd_1418, wd_9, by decide +kernel⟩
theorem mcX12_paint : MC yX12_paint cX12_paint 5 (some .int) 0 := ⟨wd_1403, wd_9, by decide +kernel⟩
theorem mcX12_given : MC yX12_given cX12_given 2 (some .int) 1 := ⟨wd_1422, wd_9, by decide +kernel⟩
theorem mcX12_count : MC yX12_count cX12_count 4 (some .int) 1 := ⟨wd_1426, wd_9, by decide +kernel⟩
theorem mcJ6_bitCount_0f7a4 : MC yJ6_bitCount_0f7a4 cJ6_bitCount_0f7a4 1 (some .int) 1 := ⟨wd_932, wd_17, by decide +kernel⟩
theorem mcJ7_fill_53178 : MC yJ7_fill_53178 cJ7_fill_53178 4 none 2 := ⟨wd_310, wd_11, by decide +kernel⟩
end
section
def lp {α : Type} (z : α) (body : α → α) : Nat → α
  | 0 => z
  | n + 1 => body (lp z body n)
theorem ifT {c : Prop} [Decidable c] {α : Type} {a b r : α} (h : (if c then a else b) = r) (hc : c) : a = r := by rwa [if_pos hc] at h
theorem ifF {c : Prop} [Decidable c] {α : Type} {a b r : α} (h : (if c then a else b) = r) (hc : ¬ c) : b = r := by rwa [if_neg hc] at h
theorem zc_eq {v z : Int32} (h : zc v = some z) : z = v ∧ zc v = some v := by
  unfold zc at h ⊢
  split at h
  · rename_i q
    cases h
    exact ⟨rfl, by rw [if_pos q]⟩
  · cases h
theorem LW_e {b : List (Option Wd)} : LW [] b := trivial
theorem LW_n {a b : List (Option Wd)} (h : LW a b.tail) : LW (none :: a) b := h
theorem LW_s {a b : List (Option Wd)} {v : Wd} (h0 : b.head? = some (some v)) (h : LW a b.tail) : LW (some v :: a) b := ⟨h0, h⟩
theorem sw_out {x : Int32} {lo hi : Int} (ks : List Int32) (hk : (List.range (hi - lo + 1).toNat).map (fun (k : Nat) => Int32.ofInt (lo + k)) = ks) (h : ∀ k ∈ ks, ¬ x = k) : x.toInt < lo ∨ hi < x.toInt := by
  rcases Int.lt_or_le x.toInt lo with q | q
  · exact Or.inl q
  · rcases Int.lt_or_le hi x.toInt with q2 | q2
    · exact Or.inr q2
    · exfalso
      refine h x ?_ rfl
      rw [← hk]
      refine List.mem_map.mpr ⟨(x.toInt - lo).toNat, List.mem_range.mpr (by omega), ?_⟩
      have e : lo + ((x.toInt - lo).toNat : Int) = x.toInt := by omega
      show Int32.ofInt (lo + ((x.toInt - lo).toNat : Int)) = x
      rw [e, Int32.ofInt_toInt]
section Rows5
variable {p : Program} {l : Launch} {e : Env} {R : Room} {s : State} {m : MethodId} {args : Array Value} {below : List Frame} {meth : Method} {c : Code} {cc : ByteArray} {own : String} {G : Gl} {nL : Nat} {Q : State → Prop} {h : Hs} {cells slots pc : Nat} {lv : List (Option Wd)} {st : List Wd}
theorem r_invV0 (C : Cx p s m args meth c cc own nL G) {idx n ci maxL : Nat} {y : MethodName} {bytes : ByteArray} {ret : Option FieldType} {rm : Room} {o : Option Nat} {a : Nat} {As : List Wd} {h' : Hs} {q : vw_C} (d : decode cc pc = .ok (.invokevirtual idx, 3)) (M : MC y bytes maxL ret n) (hlk : Cond.methodLink own idx y ∈ gtb) (hin : Cond.instanceMethod y ∈ gtb) (hsel : Cond.selects y.cls y y ∈ gtb) (hq : cls13[ci]? = some q) (hqc : q.1 = y.cls) (hc13 : ci < 13) (hR : rm.frames + 1 ≤ R.frames ∧ 8 + (maxL + 11) + rm.locals ≤ R.locals) (hf : cells + rm.cells ≤ R.cells ∧ slots + rm.slots ≤ R.slots) (hn : As.length = n) (hw : st.length ≤ 8) (er : rc ci h o = some a) (ct : CT l G y bytes maxL ret rm (.inr (some a) :: As) h none h') (k : V p l e R s m args below meth c G nL Q h' (cells + rm.cells) (slots + rm.slots) (pc + 3) lv st) : V p l e R s m args below meth c G nL Q h cells slots pc lv (As.reverse ++ .inr o :: st) := r_invV C d M hlk hin hsel hq hqc hc13 hR hf hn hw er ct k
theorem r_invV1 (C : Cx p s m args meth c cc own nL G) {idx n ci maxL : Nat} {y : MethodName} {bytes : ByteArray} {ret : Option FieldType} {rm : Room} {o : Option Nat} {a : Nat} {As : List Wd} {res : Wd} {h' : Hs} {q : vw_C} (d : decode cc pc = .ok (.invokevirtual idx, 3)) (M : MC y bytes maxL ret n) (hlk : Cond.methodLink own idx y ∈ gtb) (hin : Cond.instanceMethod y ∈ gtb) (hsel : Cond.selects y.cls y y ∈ gtb) (hq : cls13[ci]? = some q) (hqc : q.1 = y.cls) (hc13 : ci < 13) (hR : rm.frames + 1 ≤ R.frames ∧ 8 + (maxL + 11) + rm.locals ≤ R.locals) (hf : cells + rm.cells ≤ R.cells ∧ slots + rm.slots ≤ R.slots) (hn : As.length = n) (hw : st.length ≤ 8) (er : rc ci h o = some a) (ct : CT l G y bytes maxL ret rm (.inr (some a) :: As) h (some res) h') (k : V p l e R s m args below meth c G nL Q h' (cells + rm.cells) (slots + rm.slots) (pc + 3) lv (res :: st)) : V p l e R s m args below meth c G nL Q h cells slots pc lv (As.reverse ++ .inr o :: st) := r_invV C d M hlk hin hsel hq hqc hc13 hR hf hn hw er ct k
theorem r_invI0 (C : Cx p s m args meth c cc own nL G) {idx n maxL : Nat} {y : MethodName} {bytes : ByteArray} {rm : Room} {a : Nat} {As : List Wd} {h' : Hs} (d : decode cc pc = .ok (.invokespecial idx, 3)) (M : MC y bytes maxL none n) (hlk : Cond.methodLink own idx y ∈ gtb) (hin : Cond.instanceMethod y ∈ gtb) (hy1 : y.name = "<init>") (hR : rm.frames + 1 ≤ R.frames ∧ 8 + (maxL + 11) + rm.locals ≤ R.locals) (hf : cells + rm.cells ≤ R.cells ∧ slots + rm.slots ≤ R.slots) (hn : As.length = n) (hw : st.length ≤ 8) (ct : CT l G y bytes maxL none rm (.inr (some a) :: As) h none h') (k : V p l e R s m args below meth c G nL Q h' (cells + rm.cells) (slots + rm.slots) (pc + 3) lv st) : V p l e R s m args below meth c G nL Q h cells slots pc lv (As.reverse ++ .inr (some a) :: st) := r_invI C d M hlk hin hy1 hR hf hn hw ct k
theorem r_invIN0 (C : Cx p s m args meth c cc own nL G) {idx n maxL : Nat} {y : MethodName} {host : String} {bytes : ByteArray} {rm : Room} {a : Nat} {As : List Wd} {h' : Hs} (d : decode cc pc = .ok (.invokespecial idx, 3)) (M : MC y bytes maxL none n) (hlk : (own, idx, y, host) ∈ nws) (hin : Cond.instanceMethod y ∈ gtb) (hy1 : y.name = "<init>") (hR : rm.frames + 1 ≤ R.frames ∧ 8 + (maxL + 11) + rm.locals ≤ R.locals) (hf : cells + rm.cells ≤ R.cells ∧ slots + rm.slots ≤ R.slots) (hn : As.length = n) (hw : st.length ≤ 8) (ct : CT l G y bytes maxL none rm (.inr (some a) :: As) h none h') (k : V p l e R s m args below meth c G nL Q h' (cells + rm.cells) (slots + rm.slots) (pc + 3) lv st) : V p l e R s m args below meth c G nL Q h cells slots pc lv (As.reverse ++ .inr (some a) :: st) := r_invIN C d M hlk hin hy1 hR hf hn hw ct k
theorem r_invS0 (C : Cx p s m args meth c cc own nL G) {idx n maxL : Nat} {y : MethodName} {bytes : ByteArray} {ret : Option FieldType} {rm : Room} {As : List Wd} {h' : Hs} (d : decode cc pc = .ok (.invokestatic idx, 3)) (M : MC y bytes maxL ret n) (hlk : Cond.methodLink own idx y ∈ gtb) (hstat : Cond.static y ∈ gtb) (hR : rm.frames + 1 ≤ R.frames ∧ 8 + (maxL + 11) + rm.locals ≤ R.locals) (hf : cells + rm.cells ≤ R.cells ∧ slots + rm.slots ≤ R.slots) (hn : As.length = n) (hw : st.length ≤ 8) (ct : CT l G y bytes maxL ret rm As h none h') (k : V p l e R s m args below meth c G nL Q h' (cells + rm.cells) (slots + rm.slots) (pc + 3) lv st) : V p l e R s m args below meth c G nL Q h cells slots pc lv (As.reverse ++ st) := r_invS C d M hlk hstat hR hf hn hw ct k
theorem r_invS1 (C : Cx p s m args meth c cc own nL G) {idx n maxL : Nat} {y : MethodName} {bytes : ByteArray} {ret : Option FieldType} {rm : Room} {As : List Wd} {res : Wd} {h' : Hs} (d : decode cc pc = .ok (.invokestatic idx, 3)) (M : MC y bytes maxL ret n) (hlk : Cond.methodLink own idx y ∈ gtb) (hstat : Cond.static y ∈ gtb) (hR : rm.frames + 1 ≤ R.frames ∧ 8 + (maxL + 11) + rm.locals ≤ R.locals) (hf : cells + rm.cells ≤ R.cells ∧ slots + rm.slots ≤ R.slots) (hn : As.length = n) (hw : st.length ≤ 8) (ct : CT l G y bytes maxL ret rm As h (some res) h') (k : V p l e R s m args below meth c G nL Q h' (cells + rm.cells) (slots + rm.slots) (pc + 3) lv (res :: st)) : V p l e R s m args below meth c G nL Q h cells slots pc lv (As.reverse ++ st) := r_invS C d M hlk hstat hR hf hn hw ct k
theorem r_invSN0 (C : Cx p s m args meth c cc own nL G) {idx n maxL : Nat} {y : MethodName} {host : String} {bytes : ByteArray} {ret : Option FieldType} {rm : Room} {As : List Wd} {h' : Hs} (d : decode cc pc = .ok (.invokestatic idx, 3)) (M : MC y bytes maxL ret n) (hlk : (own, idx, y, host) ∈ nws) (hstat : Cond.static y ∈ gtb) (hR : rm.frames + 1 ≤ R.frames ∧ 8 + (maxL + 11) + rm.locals ≤ R.locals) (hf : cells + rm.cells ≤ R.cells ∧ slots + rm.slots ≤ R.slots) (hn : As.length = n) (hw : st.length ≤ 8) (ct : CT l G y bytes maxL ret rm As h none h') (k : V p l e R s m args below meth c G nL Q h' (cells + rm.cells) (slots + rm.slots) (pc + 3) lv st) : V p l e R s m args below meth c G nL Q h cells slots pc lv (As.reverse ++ st) := r_invSN C d M hlk hstat hR hf hn hw ct k
theorem r_invSN1 (C : Cx p s m args meth c cc own nL G) {idx n maxL : Nat} {y : MethodName} {host : String} {bytes : ByteArray} {ret : Option FieldType} {rm : Room} {As : List Wd} {res : Wd} {h' : Hs} (d : decode cc pc = .ok (.invokestatic idx, 3)) (M : MC y bytes maxL ret n) (hlk : (own, idx, y, host) ∈ nws) (hstat : Cond.static y ∈ gtb) (hR : rm.frames + 1 ≤ R.frames ∧ 8 + (maxL + 11) + rm.locals ≤ R.locals) (hf : cells + rm.cells ≤ R.cells ∧ slots + rm.slots ≤ R.slots) (hn : As.length = n) (hw : st.length ≤ 8) (ct : CT l G y bytes maxL ret rm As h (some res) h') (k : V p l e R s m args below meth c G nL Q h' (cells + rm.cells) (slots + rm.slots) (pc + 3) lv (res :: st)) : V p l e R s m args below meth c G nL Q h cells slots pc lv (As.reverse ++ st) := r_invSN C d M hlk hstat hR hf hn hw ct k
theorem r_zretB (C : Cx p s m args meth c cc own nL G) {v z : Int32} {mc ms : Nat} (d : decode cc pc = .ok (.ireturn, 1)) (hr : meth.sig.returnType = some .boolean) (hv : zc v = some z) (h1 : cells ≤ mc) (h2 : slots ≤ ms) : V p l e R s m args below meth c G nL (MQ below (QcG G (some (.inl z)) h) args s mc ms (AG G)) h cells slots pc lv [.inl v] := by
  obtain ⟨e1, e2⟩ := zc_eq hv
  rw [e1]
  exact r_zret C d hr e2 h1 h2
end Rows5
end
section
theorem dX0_init_0 : decode cX0_init 0 = .ok (.aload_n 0, 1) := by decide +kernel
theorem dX0_init_1 : decode cX0_init 1 = .ok (.invokespecial 3, 3) := by decide +kernel
theorem dX0_init_4 : decode cX0_init 4 = .ok (.aload_n 0, 1) := by decide +kernel
theorem dX0_init_5 : decode cX0_init 5 = .ok (.bipush 60, 2) := by decide +kernel
theorem dX0_init_7 : decode cX0_init 7 = .ok (.newarray .int, 2) := by decide +kernel
theorem dX0_init_9 : decode cX0_init 9 = .ok (.putfield 9, 3) := by decide +kernel
theorem dX0_init_12 : decode cX0_init 12 = .ok (.aload_n 0, 1) := by decide +kernel
theorem dX0_init_13 : decode cX0_init 13 = .ok (.bipush 60, 2) := by decide +kernel
theorem dX0_init_15 : decode cX0_init 15 = .ok (.newarray .int, 2) := by decide +kernel
theorem dX0_init_17 : decode cX0_init 17 = .ok (.putfield 15, 3) := by decide +kernel
theorem dX0_init_20 : decode cX0_init 20 = .ok (.return_, 1) := by decide +kernel
abbrev rmX0_init : Room := { frames := 1, cells := 2, slots := 120, locals := 12 }
noncomputable def fX0_init (N : Nat) (h : Hs) (t : Nat)  : Option (Hs) :=
  (some (nw h (20, 60))).bind fun h1 =>
  (qR 0 0 h1 (some t) (some (sz h))).bind fun h2 =>
  (some (nw h2 (20, 60))).bind fun h3 =>
  (qR 0 1 h3 (some t) (some (sz h2))).bind fun h4 =>
  some h4
set_option maxHeartbeats 4000000 in
set_option maxRecDepth 20000 in
theorem kX0_init (l : Launch) (G : Gl) {N : Nat} {h : Hs} {t : Nat}  {r : Hs} (hf : fX0_init N h t  = some r) : CT l G yX0_init cX0_init 1 none rmX0_init [.inr (some t)] h (none) r := by
  refine mk_CT (by decide) (Nat.le_of_ble_eq_true rfl) ?_
  intro p e s m args below meth c C hret hin
  unfold fX0_init at hf
  refine r_aload_n C dX0_init_0 rfl ?_
  refine r_objInit C dX0_init_1 wd_68 wd_24 wd_25 (by decide) (Nat.le_of_ble_eq_true rfl) ?_
  refine r_aload_n C dX0_init_4 rfl ?_
  refine r_bipush (v := 60) C dX0_init_5 (by decide) ?_
  obtain ⟨h1, eh1, hf⟩ := bS hf
  cases eh1
  refine r_newA (t := 0) (N := 60) C dX0_init_7 (by decide) rfl rfl wd_62 (by decide) (by decide) (by decide) (fun _ _ q => q) (by decide) (by decide) ?_
  obtain ⟨h2, eh2, hf⟩ := bS hf
  refine r_putR C dX0_init_9 fl_X0_9 (Or.inr ⟨ff_0_0, hin⟩) rfl eh2 ?_
  refine r_aload_n C dX0_init_12 rfl ?_
  refine r_bipush (v := 60) C dX0_init_13 (by decide) ?_
  obtain ⟨h3, eh3, hf⟩ := bS hf
  cases eh3
  refine r_newA (t := 0) (N := 60) C dX0_init_15 (by decide) rfl rfl wd_62 (by decide) (by decide) (by decide) (fun _ _ q => q) (by decide) (by decide) ?_
  obtain ⟨h4, eh4, hf⟩ := bS hf
  refine r_putR C dX0_init_17 fl_X0_15 (Or.inr ⟨ff_0_1, hin⟩) rfl eh4 ?_
  cases hf
  exact r_vret C dX0_init_20 hret (by decide) (by decide)

theorem dX11_isWithin_0 : decode cX11_isWithin 0 = .ok (.iload_n 1, 1) := by decide +kernel
theorem dX11_isWithin_1 : decode cX11_isWithin 1 = .ok (.iload_n 0, 1) := by decide +kernel
theorem dX11_isWithin_2 : decode cX11_isWithin 2 = .ok (.if_icmp .gt 12, 3) := by decide +kernel
theorem dX11_isWithin_5 : decode cX11_isWithin 5 = .ok (.iload_n 0, 1) := by decide +kernel
theorem dX11_isWithin_6 : decode cX11_isWithin 6 = .ok (.iload_n 2, 1) := by decide +kernel
theorem dX11_isWithin_7 : decode cX11_isWithin 7 = .ok (.if_icmp .gt 7, 3) := by decide +kernel
theorem dX11_isWithin_10 : decode cX11_isWithin 10 = .ok (.iconst 1, 1) := by decide +kernel
theorem dX11_isWithin_11 : decode cX11_isWithin 11 = .ok (.goto 4, 3) := by decide +kernel
theorem dX11_isWithin_14 : decode cX11_isWithin 14 = .ok (.iconst 0, 1) := by decide +kernel
theorem dX11_isWithin_15 : decode cX11_isWithin 15 = .ok (.ireturn, 1) := by decide +kernel
abbrev rmX11_isWithin : Room := { frames := 0, cells := 0, slots := 0, locals := 0 }
noncomputable def fX11_isWithin_b15 (N : Nat)  (h : Hs) (u0 : Int32) : Option (Int32 × Hs) :=
  (zc u0).bind fun z1 =>
  some (z1, h)
set_option maxHeartbeats 4000000 in
set_option maxRecDepth 20000 in
theorem wX11_isWithin_b15 {p : Program} {l : Launch} {e : Env} {s : State} {m : MethodId} {args : Array Value} {below : List Frame} {meth : Method} {c : Code} {G : Gl} {N : Nat} {h : Hs} {r : Int32 × Hs}  {u0 : Int32} (C : Cx p s m args meth c cX11_isWithin RX11 3 G) (hret : meth.sig.returnType = (some .boolean))  (hf : fX11_isWithin_b15 N  h u0 = some r) : V p l e rmX11_isWithin s m args below meth c G 3 (MQ below (QcG G (some (.inl r.1)) r.2) args s rmX11_isWithin.cells rmX11_isWithin.slots (AG G)) h 0 0 15 [none, none, none] [.inl u0] := by
  unfold fX11_isWithin_b15 at hf
  obtain ⟨z1, ez1, hf⟩ := bS hf
  cases hf
  exact r_zretB C dX11_isWithin_15 hret ez1 (by decide) (by decide)
noncomputable def fX11_isWithin_b14 (N : Nat)  (h : Hs)  : Option (Int32 × Hs) :=
  fX11_isWithin_b15 N h 0
set_option maxHeartbeats 4000000 in
set_option maxRecDepth 20000 in
theorem wX11_isWithin_b14 {p : Program} {l : Launch} {e : Env} {s : State} {m : MethodId} {args : Array Value} {below : List Frame} {meth : Method} {c : Code} {G : Gl} {N : Nat} {h : Hs} {r : Int32 × Hs}   (C : Cx p s m args meth c cX11_isWithin RX11 3 G) (hret : meth.sig.returnType = (some .boolean))  (hf : fX11_isWithin_b14 N  h  = some r) : V p l e rmX11_isWithin s m args below meth c G 3 (MQ below (QcG G (some (.inl r.1)) r.2) args s rmX11_isWithin.cells rmX11_isWithin.slots (AG G)) h 0 0 14 [none, none, none] [] := by
  unfold fX11_isWithin_b14 at hf
  refine r_iconst (v := 0) C dX11_isWithin_14 (by decide) ?_
  exact V.sub (wX11_isWithin_b15 C hret hf) (LW_n (LW_n (LW_n (LW_e))))
noncomputable def fX11_isWithin (N : Nat) (h : Hs) (p0 : Int32) (p1 : Int32) (p2 : Int32) : Option (Int32 × Hs) :=
  if p0 < p1 then (
  fX11_isWithin_b14 N h)
  else if p2 < p0 then (
  fX11_isWithin_b14 N h)
  else fX11_isWithin_b15 N h 1
set_option maxHeartbeats 4000000 in
set_option maxRecDepth 20000 in
theorem kX11_isWithin (l : Launch) (G : Gl) {N : Nat} {h : Hs} {p0 : Int32} {p1 : Int32} {p2 : Int32} {r : Int32 × Hs} (hf : fX11_isWithin N h p0 p1 p2 = some r) : CT l G yX11_isWithin cX11_isWithin 3 (some .boolean) rmX11_isWithin [.inl p0, .inl p1, .inl p2] h (some (.inl r.1)) r.2 := by
  refine mk_CT (by decide) (Nat.le_of_ble_eq_true rfl) ?_
  intro p e s m args below meth c C hret hin
  unfold fX11_isWithin at hf
  refine r_iload_n C dX11_isWithin_0 rfl ?_
  refine r_iload_n C dX11_isWithin_1 rfl ?_
  refine r_icmp_gt (tgt := 14) C dX11_isWithin_2 (by decide) (fun hc => ?_) (fun hc => ?_)
  · have hf := ifT hf hc
    exact V.sub (wX11_isWithin_b14 C hret hf) (LW_n (LW_n (LW_n (LW_e))))
  · have hf := ifF hf hc
    refine r_iload_n C dX11_isWithin_5 rfl ?_
    refine r_iload_n C dX11_isWithin_6 rfl ?_
    refine r_icmp_gt (tgt := 14) C dX11_isWithin_7 (by decide) (fun hc => ?_) (fun hc => ?_)
    · have hf := ifT hf hc
      exact V.sub (wX11_isWithin_b14 C hret hf) (LW_n (LW_n (LW_n (LW_e))))
    · have hf := ifF hf hc
      refine r_iconst (v := 1) C dX11_isWithin_10 (by decide) ?_
      refine r_goto (tgt := 15) C dX11_isWithin_11 (by decide) ?_
      exact V.sub (wX11_isWithin_b15 C hret hf) (LW_n (LW_n (LW_n (LW_e))))

theorem dX0_add_0 : decode cX0_add 0 = .ok (.iload_n 1, 1) := by decide +kernel
theorem dX0_add_1 : decode cX0_add 1 = .ok (.iconst 1, 1) := by decide +kernel
theorem dX0_add_2 : decode cX0_add 2 = .ok (.sipush 300, 3) := by decide +kernel
theorem dX0_add_5 : decode cX0_add 5 = .ok (.invokestatic 18, 3) := by decide +kernel
theorem dX0_add_8 : decode cX0_add 8 = .ok (.ifCond .ne 5, 3) := by decide +kernel
theorem dX0_add_11 : decode cX0_add 11 = .ok (.iconst (-1), 1) := by decide +kernel
theorem dX0_add_12 : decode cX0_add 12 = .ok (.ireturn, 1) := by decide +kernel
theorem dX0_add_13 : decode cX0_add 13 = .ok (.aload_n 0, 1) := by decide +kernel
theorem dX0_add_14 : decode cX0_add 14 = .ok (.getfield 22, 3) := by decide +kernel
theorem dX0_add_17 : decode cX0_add 17 = .ok (.bipush 60, 2) := by decide +kernel
theorem dX0_add_19 : decode cX0_add 19 = .ok (.if_icmp .lt 6, 3) := by decide +kernel
theorem dX0_add_22 : decode cX0_add 22 = .ok (.bipush (-3), 2) := by decide +kernel
theorem dX0_add_24 : decode cX0_add 24 = .ok (.ireturn, 1) := by decide +kernel
theorem dX0_add_25 : decode cX0_add 25 = .ok (.aload_n 0, 1) := by decide +kernel
theorem dX0_add_26 : decode cX0_add 26 = .ok (.getfield 9, 3) := by decide +kernel
theorem dX0_add_29 : decode cX0_add 29 = .ok (.aload_n 0, 1) := by decide +kernel
theorem dX0_add_30 : decode cX0_add 30 = .ok (.getfield 22, 3) := by decide +kernel
theorem dX0_add_33 : decode cX0_add 33 = .ok (.iload_n 1, 1) := by decide +kernel
theorem dX0_add_34 : decode cX0_add 34 = .ok (.iastore, 1) := by decide +kernel
theorem dX0_add_35 : decode cX0_add 35 = .ok (.aload_n 0, 1) := by decide +kernel
theorem dX0_add_36 : decode cX0_add 36 = .ok (.getfield 15, 3) := by decide +kernel
theorem dX0_add_39 : decode cX0_add 39 = .ok (.aload_n 0, 1) := by decide +kernel
theorem dX0_add_40 : decode cX0_add 40 = .ok (.getfield 22, 3) := by decide +kernel
theorem dX0_add_43 : decode cX0_add 43 = .ok (.aload_n 0, 1) := by decide +kernel
theorem dX0_add_44 : decode cX0_add 44 = .ok (.getfield 26, 3) := by decide +kernel
theorem dX0_add_47 : decode cX0_add 47 = .ok (.iload_n 1, 1) := by decide +kernel
theorem dX0_add_48 : decode cX0_add 48 = .ok (.iadd, 1) := by decide +kernel
theorem dX0_add_49 : decode cX0_add 49 = .ok (.iastore, 1) := by decide +kernel
theorem dX0_add_50 : decode cX0_add 50 = .ok (.aload_n 0, 1) := by decide +kernel
theorem dX0_add_51 : decode cX0_add 51 = .ok (.dup, 1) := by decide +kernel
theorem dX0_add_52 : decode cX0_add 52 = .ok (.getfield 22, 3) := by decide +kernel
theorem dX0_add_55 : decode cX0_add 55 = .ok (.dup_x1, 1) := by decide +kernel
theorem dX0_add_56 : decode cX0_add 56 = .ok (.iconst 1, 1) := by decide +kernel
theorem dX0_add_57 : decode cX0_add 57 = .ok (.iadd, 1) := by decide +kernel
theorem dX0_add_58 : decode cX0_add 58 = .ok (.putfield 22, 3) := by decide +kernel
theorem dX0_add_61 : decode cX0_add 61 = .ok (.ireturn, 1) := by decide +kernel
abbrev rmX0_add : Room := { frames := 1, cells := 0, slots := 0, locals := 22 }
noncomputable def fX0_add (N : Nat) (h : Hs) (t : Nat) (p1 : Int32) : Option (Int32 × Hs) :=
  (fX11_isWithin N h p1 1 300).bind fun r1 =>
  if r1.1 = 0 then (
  some ((-1), r1.2))
  else (oI 0 2 r1.2 (some t)).bind fun v2 =>
  if v2 < 60 then (
  (oR 0 0 r1.2 (some t)).bind fun o3 =>
  (oI 0 2 r1.2 (some t)).bind fun v4 =>
  (sA r1.2 o3 v4 p1).bind fun h5 =>
  (oR 0 1 h5 (some t)).bind fun o6 =>
  (oI 0 2 h5 (some t)).bind fun v7 =>
  (oI 0 3 h5 (some t)).bind fun v8 =>
  (sA h5 o6 v7 (v8 + p1)).bind fun h9 =>
  (oI 0 2 h9 (some t)).bind fun v10 =>
  (qI 0 2 h9 (some t) (v10 + 1)).bind fun h11 =>
  some (v10, h11))
  else some ((-3), r1.2)
set_option maxHeartbeats 4000000 in
set_option maxRecDepth 20000 in
theorem kX0_add (l : Launch) (G : Gl) {N : Nat} {h : Hs} {t : Nat} {p1 : Int32} {r : Int32 × Hs} (hf : fX0_add N h t p1 = some r) : CT l G yX0_add cX0_add 2 (some .int) rmX0_add [.inr (some t), .inl p1] h (some (.inl r.1)) r.2 := by
  refine mk_CT (by decide) (Nat.le_of_ble_eq_true rfl) ?_
  intro p e s m args below meth c C hret hin
  unfold fX0_add at hf
  refine r_iload_n C dX0_add_0 rfl ?_
  refine r_iconst (v := 1) C dX0_add_1 (by decide) ?_
  refine r_sipush (v := 300) C dX0_add_2 (by decide) ?_
  obtain ⟨r1, er1, hf⟩ := bS hf
  refine r_invSN1 (As := [.inl p1, .inl 1, .inl 300]) (host := "StageMachine") C dX0_add_5 mcX11_isWithin (by decide) wd_291 ⟨by decide, by decide⟩ ⟨by decide, by decide⟩ rfl (Nat.le_of_ble_eq_true rfl) (kX11_isWithin l G er1) ?_
  refine r_if_ne (tgt := 13) C dX0_add_8 (by decide) (fun hc => ?_) (fun hc => ?_)
  · have hf := ifF hf hc
    refine r_aload_n C dX0_add_13 rfl ?_
    obtain ⟨v2, ev2, hf⟩ := bS hf
    refine r_getI C dX0_add_14 fl_X0_22 rfl ev2 ?_
    refine r_bipush (v := 60) C dX0_add_17 (by decide) ?_
    refine r_icmp_lt (tgt := 25) C dX0_add_19 (by decide) (fun hc => ?_) (fun hc => ?_)
    · have hf := ifT hf hc
      refine r_aload_n C dX0_add_25 rfl ?_
      obtain ⟨o3, eo3, hf⟩ := bS hf
      refine r_getR C dX0_add_26 fl_X0_9 rfl eo3 ?_
      refine r_aload_n C dX0_add_29 rfl ?_
      obtain ⟨v4, ev4, hf⟩ := bS hf
      refine r_getI C dX0_add_30 fl_X0_22 rfl ev4 ?_
      refine r_iload_n C dX0_add_33 rfl ?_
      obtain ⟨h5, eh5, hf⟩ := bS hf
      refine r_iast C dX0_add_34 eh5 ?_
      refine r_aload_n C dX0_add_35 rfl ?_
      obtain ⟨o6, eo6, hf⟩ := bS hf
      refine r_getR C dX0_add_36 fl_X0_15 rfl eo6 ?_
      refine r_aload_n C dX0_add_39 rfl ?_
      obtain ⟨v7, ev7, hf⟩ := bS hf
      refine r_getI C dX0_add_40 fl_X0_22 rfl ev7 ?_
      refine r_aload_n C dX0_add_43 rfl ?_
      obtain ⟨v8, ev8, hf⟩ := bS hf
      refine r_getI C dX0_add_44 fl_X0_26 rfl ev8 ?_
      refine r_iload_n C dX0_add_47 rfl ?_
      refine r_iadd C dX0_add_48 ?_
      obtain ⟨h9, eh9, hf⟩ := bS hf
      refine r_iast C dX0_add_49 eh9 ?_
      refine r_aload_n C dX0_add_50 rfl ?_
      refine r_dup C dX0_add_51 ?_
      obtain ⟨v10, ev10, hf⟩ := bS hf
      refine r_getI C dX0_add_52 fl_X0_22 rfl ev10 ?_
      refine r_dup_x1 C dX0_add_55 ?_
      refine r_iconst (v := 1) C dX0_add_56 (by decide) ?_
      refine r_iadd C dX0_add_57 ?_
      obtain ⟨h11, eh11, hf⟩ := bS hf
      refine r_putI C dX0_add_58 fl_X0_22 (Or.inl fn_0_2) rfl eh11 ?_
      cases hf
      exact r_iret C dX0_add_61 hret (by decide) (by decide)
    · have hf := ifF hf hc
      refine r_bipush (v := -3) C dX0_add_22 (by decide) ?_
      cases hf
      exact r_iret C dX0_add_24 hret (by decide) (by decide)
  · have hf := ifT hf hc
    refine r_iconst (v := -1) C dX0_add_11 (by decide) ?_
    cases hf
    exact r_iret C dX0_add_12 hret (by decide) (by decide)

theorem dX0_pass_0 : decode cX0_pass 0 = .ok (.iload_n 1, 1) := by decide +kernel
theorem dX0_pass_1 : decode cX0_pass 1 = .ok (.iconst 1, 1) := by decide +kernel
theorem dX0_pass_2 : decode cX0_pass 2 = .ok (.sipush 1000, 3) := by decide +kernel
theorem dX0_pass_5 : decode cX0_pass 5 = .ok (.invokestatic 18, 3) := by decide +kernel
theorem dX0_pass_8 : decode cX0_pass 8 = .ok (.ifCond .eq 15, 3) := by decide +kernel
theorem dX0_pass_11 : decode cX0_pass 11 = .ok (.aload_n 0, 1) := by decide +kernel
theorem dX0_pass_12 : decode cX0_pass 12 = .ok (.getfield 26, 3) := by decide +kernel
theorem dX0_pass_15 : decode cX0_pass 15 = .ok (.iload_n 1, 1) := by decide +kernel
theorem dX0_pass_16 : decode cX0_pass 16 = .ok (.iadd, 1) := by decide +kernel
theorem dX0_pass_17 : decode cX0_pass 17 = .ok (.sipush 9999, 3) := by decide +kernel
theorem dX0_pass_20 : decode cX0_pass 20 = .ok (.if_icmp .le 5, 3) := by decide +kernel
theorem dX0_pass_23 : decode cX0_pass 23 = .ok (.iconst (-1), 1) := by decide +kernel
theorem dX0_pass_24 : decode cX0_pass 24 = .ok (.ireturn, 1) := by decide +kernel
theorem dX0_pass_25 : decode cX0_pass 25 = .ok (.aload_n 0, 1) := by decide +kernel
theorem dX0_pass_26 : decode cX0_pass 26 = .ok (.dup, 1) := by decide +kernel
theorem dX0_pass_27 : decode cX0_pass 27 = .ok (.getfield 26, 3) := by decide +kernel
theorem dX0_pass_30 : decode cX0_pass 30 = .ok (.iload_n 1, 1) := by decide +kernel
theorem dX0_pass_31 : decode cX0_pass 31 = .ok (.iadd, 1) := by decide +kernel
theorem dX0_pass_32 : decode cX0_pass 32 = .ok (.putfield 26, 3) := by decide +kernel
theorem dX0_pass_35 : decode cX0_pass 35 = .ok (.aload_n 0, 1) := by decide +kernel
theorem dX0_pass_36 : decode cX0_pass 36 = .ok (.getfield 26, 3) := by decide +kernel
theorem dX0_pass_39 : decode cX0_pass 39 = .ok (.ireturn, 1) := by decide +kernel
abbrev rmX0_pass : Room := { frames := 1, cells := 0, slots := 0, locals := 22 }
noncomputable def fX0_pass_b23 (N : Nat)  (t : Nat) (h : Hs)  : Option (Int32 × Hs) :=
  some ((-1), h)
set_option maxHeartbeats 4000000 in
set_option maxRecDepth 20000 in
theorem wX0_pass_b23 {p : Program} {l : Launch} {e : Env} {s : State} {m : MethodId} {args : Array Value} {below : List Frame} {meth : Method} {c : Code} {G : Gl} {N : Nat} {h : Hs} {r : Int32 × Hs}  {t : Nat}  (C : Cx p s m args meth c cX0_pass RX0 2 G) (hret : meth.sig.returnType = (some .int))  (hf : fX0_pass_b23 N  t h  = some r) : V p l e rmX0_pass s m args below meth c G 2 (MQ below (QcG G (some (.inl r.1)) r.2) args s rmX0_pass.cells rmX0_pass.slots (AG G)) h 0 0 23 [some (.inr (some t)), none] [] := by
  unfold fX0_pass_b23 at hf
  refine r_iconst (v := -1) C dX0_pass_23 (by decide) ?_
  cases hf
  exact r_iret C dX0_pass_24 hret (by decide) (by decide)
noncomputable def fX0_pass (N : Nat) (h : Hs) (t : Nat) (p1 : Int32) : Option (Int32 × Hs) :=
  (fX11_isWithin N h p1 1 1000).bind fun r1 =>
  if r1.1 = 0 then (
  fX0_pass_b23 N t r1.2)
  else (oI 0 3 r1.2 (some t)).bind fun v2 =>
  if (v2 + p1) ≤ 9999 then (
  (oI 0 3 r1.2 (some t)).bind fun v3 =>
  (qI 0 3 r1.2 (some t) (v3 + p1)).bind fun h4 =>
  (oI 0 3 h4 (some t)).bind fun v5 =>
  some (v5, h4))
  else fX0_pass_b23 N t r1.2
set_option maxHeartbeats 4000000 in
set_option maxRecDepth 20000 in
theorem kX0_pass (l : Launch) (G : Gl) {N : Nat} {h : Hs} {t : Nat} {p1 : Int32} {r : Int32 × Hs} (hf : fX0_pass N h t p1 = some r) : CT l G yX0_pass cX0_pass 2 (some .int) rmX0_pass [.inr (some t), .inl p1] h (some (.inl r.1)) r.2 := by
  refine mk_CT (by decide) (Nat.le_of_ble_eq_true rfl) ?_
  intro p e s m args below meth c C hret hin
  unfold fX0_pass at hf
  refine r_iload_n C dX0_pass_0 rfl ?_
  refine r_iconst (v := 1) C dX0_pass_1 (by decide) ?_
  refine r_sipush (v := 1000) C dX0_pass_2 (by decide) ?_
  obtain ⟨r1, er1, hf⟩ := bS hf
  refine r_invSN1 (As := [.inl p1, .inl 1, .inl 1000]) (host := "StageMachine") C dX0_pass_5 mcX11_isWithin (by decide) wd_291 ⟨by decide, by decide⟩ ⟨by decide, by decide⟩ rfl (Nat.le_of_ble_eq_true rfl) (kX11_isWithin l G er1) ?_
  refine r_if_eq (tgt := 23) C dX0_pass_8 (by decide) (fun hc => ?_) (fun hc => ?_)
  · have hf := ifT hf hc
    exact V.sub (wX0_pass_b23 C hret hf) (LW_s rfl (LW_n (LW_e)))
  · have hf := ifF hf hc
    refine r_aload_n C dX0_pass_11 rfl ?_
    obtain ⟨v2, ev2, hf⟩ := bS hf
    refine r_getI C dX0_pass_12 fl_X0_26 rfl ev2 ?_
    refine r_iload_n C dX0_pass_15 rfl ?_
    refine r_iadd C dX0_pass_16 ?_
    refine r_sipush (v := 9999) C dX0_pass_17 (by decide) ?_
    refine r_icmp_le (tgt := 25) C dX0_pass_20 (by decide) (fun hc => ?_) (fun hc => ?_)
    · have hf := ifT hf hc
      refine r_aload_n C dX0_pass_25 rfl ?_
      refine r_dup C dX0_pass_26 ?_
      obtain ⟨v3, ev3, hf⟩ := bS hf
      refine r_getI C dX0_pass_27 fl_X0_26 rfl ev3 ?_
      refine r_iload_n C dX0_pass_30 rfl ?_
      refine r_iadd C dX0_pass_31 ?_
      obtain ⟨h4, eh4, hf⟩ := bS hf
      refine r_putI C dX0_pass_32 fl_X0_26 (Or.inl fn_0_3) rfl eh4 ?_
      refine r_aload_n C dX0_pass_35 rfl ?_
      obtain ⟨v5, ev5, hf⟩ := bS hf
      refine r_getI C dX0_pass_36 fl_X0_26 rfl ev5 ?_
      cases hf
      exact r_iret C dX0_pass_39 hret (by decide) (by decide)
    · have hf := ifF hf hc
      exact V.sub (wX0_pass_b23 C hret hf) (LW_s rfl (LW_n (LW_e)))

theorem dX0_renew_0 : decode cX0_renew 0 = .ok (.iload_n 1, 1) := by decide +kernel
theorem dX0_renew_1 : decode cX0_renew 1 = .ok (.iconst 0, 1) := by decide +kernel
theorem dX0_renew_2 : decode cX0_renew 2 = .ok (.sipush 300, 3) := by decide +kernel
theorem dX0_renew_5 : decode cX0_renew 5 = .ok (.invokestatic 18, 3) := by decide +kernel
theorem dX0_renew_8 : decode cX0_renew 8 = .ok (.ifCond .ne 5, 3) := by decide +kernel
theorem dX0_renew_11 : decode cX0_renew 11 = .ok (.iconst (-1), 1) := by decide +kernel
theorem dX0_renew_12 : decode cX0_renew 12 = .ok (.ireturn, 1) := by decide +kernel
theorem dX0_renew_13 : decode cX0_renew 13 = .ok (.iconst 0, 1) := by decide +kernel
theorem dX0_renew_14 : decode cX0_renew 14 = .ok (.istore_n 2, 1) := by decide +kernel
theorem dX0_renew_15 : decode cX0_renew 15 = .ok (.iconst 0, 1) := by decide +kernel
theorem dX0_renew_16 : decode cX0_renew 16 = .ok (.istore_n 3, 1) := by decide +kernel
theorem dX0_renew_17 : decode cX0_renew 17 = .ok (.iload_n 3, 1) := by decide +kernel
theorem dX0_renew_18 : decode cX0_renew 18 = .ok (.aload_n 0, 1) := by decide +kernel
theorem dX0_renew_19 : decode cX0_renew 19 = .ok (.getfield 22, 3) := by decide +kernel
theorem dX0_renew_22 : decode cX0_renew 22 = .ok (.if_icmp .ge 48, 3) := by decide +kernel
theorem dX0_renew_25 : decode cX0_renew 25 = .ok (.aload_n 0, 1) := by decide +kernel
theorem dX0_renew_26 : decode cX0_renew 26 = .ok (.getfield 15, 3) := by decide +kernel
theorem dX0_renew_29 : decode cX0_renew 29 = .ok (.iload_n 3, 1) := by decide +kernel
theorem dX0_renew_30 : decode cX0_renew 30 = .ok (.iaload, 1) := by decide +kernel
theorem dX0_renew_31 : decode cX0_renew 31 = .ok (.aload_n 0, 1) := by decide +kernel
theorem dX0_renew_32 : decode cX0_renew 32 = .ok (.getfield 26, 3) := by decide +kernel
theorem dX0_renew_35 : decode cX0_renew 35 = .ok (.isub, 1) := by decide +kernel
theorem dX0_renew_36 : decode cX0_renew 36 = .ok (.iconst 1, 1) := by decide +kernel
theorem dX0_renew_37 : decode cX0_renew 37 = .ok (.iload_n 1, 1) := by decide +kernel
theorem dX0_renew_38 : decode cX0_renew 38 = .ok (.invokestatic 18, 3) := by decide +kernel
theorem dX0_renew_41 : decode cX0_renew 41 = .ok (.ifCond .eq 23, 3) := by decide +kernel
theorem dX0_renew_44 : decode cX0_renew 44 = .ok (.aload_n 0, 1) := by decide +kernel
theorem dX0_renew_45 : decode cX0_renew 45 = .ok (.getfield 15, 3) := by decide +kernel
theorem dX0_renew_48 : decode cX0_renew 48 = .ok (.iload_n 3, 1) := by decide +kernel
theorem dX0_renew_49 : decode cX0_renew 49 = .ok (.aload_n 0, 1) := by decide +kernel
theorem dX0_renew_50 : decode cX0_renew 50 = .ok (.getfield 26, 3) := by decide +kernel
theorem dX0_renew_53 : decode cX0_renew 53 = .ok (.aload_n 0, 1) := by decide +kernel
theorem dX0_renew_54 : decode cX0_renew 54 = .ok (.getfield 9, 3) := by decide +kernel
theorem dX0_renew_57 : decode cX0_renew 57 = .ok (.iload_n 3, 1) := by decide +kernel
theorem dX0_renew_58 : decode cX0_renew 58 = .ok (.iaload, 1) := by decide +kernel
theorem dX0_renew_59 : decode cX0_renew 59 = .ok (.iadd, 1) := by decide +kernel
theorem dX0_renew_60 : decode cX0_renew 60 = .ok (.iastore, 1) := by decide +kernel
theorem dX0_renew_61 : decode cX0_renew 61 = .ok (.iinc 2 1, 3) := by decide +kernel
theorem dX0_renew_64 : decode cX0_renew 64 = .ok (.iinc 3 1, 3) := by decide +kernel
theorem dX0_renew_67 : decode cX0_renew 67 = .ok (.goto (-50), 3) := by decide +kernel
theorem dX0_renew_70 : decode cX0_renew 70 = .ok (.iload_n 2, 1) := by decide +kernel
theorem dX0_renew_71 : decode cX0_renew 71 = .ok (.ireturn, 1) := by decide +kernel
abbrev rmX0_renew : Room := { frames := 1, cells := 0, slots := 0, locals := 22 }
noncomputable def fX0_renew_b64 (N : Nat) (g17 : Hs → Int32 → Int32 → Int32 → Option (Int32 × Hs)) (t : Nat) (h : Hs) (x1 : Int32) (x2 : Int32) (x3 : Int32) : Option (Int32 × Hs) :=
  (some (x3 + 1)).bind fun y1 =>
  g17 h x1 x2 y1
set_option maxHeartbeats 4000000 in
set_option maxRecDepth 20000 in
theorem wX0_renew_b64 {p : Program} {l : Launch} {e : Env} {s : State} {m : MethodId} {args : Array Value} {below : List Frame} {meth : Method} {c : Code} {G : Gl} {N : Nat} {h : Hs} {r : Int32 × Hs} {g17 : Hs → Int32 → Int32 → Int32 → Option (Int32 × Hs)} {t : Nat} {x1 : Int32} {x2 : Int32} {x3 : Int32} (C : Cx p s m args meth c cX0_renew RX0 4 G) (hret : meth.sig.returnType = (some .int)) (hg17 : ∀ (h : Hs) (x1 : Int32) (x2 : Int32) (x3 : Int32), g17 h x1 x2 x3 = some r → V p l e rmX0_renew s m args below meth c G 4 (MQ below (QcG G (some (.inl r.1)) r.2) args s rmX0_renew.cells rmX0_renew.slots (AG G)) h 0 0 17 [some (.inr (some t)), some (.inl x1), some (.inl x2), some (.inl x3)] []) (hf : fX0_renew_b64 N g17 t h x1 x2 x3 = some r) : V p l e rmX0_renew s m args below meth c G 4 (MQ below (QcG G (some (.inl r.1)) r.2) args s rmX0_renew.cells rmX0_renew.slots (AG G)) h 0 0 64 [some (.inr (some t)), some (.inl x1), some (.inl x2), some (.inl x3)] [] := by
  unfold fX0_renew_b64 at hf
  obtain ⟨y1, ey1, hf⟩ := bS hf; cases ey1
  refine r_iinc (v := 1) C dX0_renew_64 rfl (by decide) (by decide) ?_
  refine r_goto (tgt := 17) C dX0_renew_67 (by decide) ?_
  exact V.sub (hg17 _ _ _ _ hf) (LW_s rfl (LW_s rfl (LW_s rfl (LW_s rfl (LW_e)))))
noncomputable def fX0_renew_b17_body (N : Nat)  (g17 : Hs → Int32 → Int32 → Int32 → Option (Int32 × Hs)) (t : Nat) (h : Hs) (x1 : Int32) (x2 : Int32) (x3 : Int32) : Option (Int32 × Hs) :=
  (oI 0 2 h (some t)).bind fun v1 =>
  if v1 ≤ x3 then (
  some (x2, h))
  else (oR 0 1 h (some t)).bind fun o2 =>
  (lA 20 h o2 x3).bind fun v3 =>
  (oI 0 3 h (some t)).bind fun v4 =>
  (fX11_isWithin N h (v3 - v4) 1 x1).bind fun r5 =>
  if r5.1 = 0 then (
  fX0_renew_b64 N g17 t r5.2 x1 x2 x3)
  else (oR 0 1 r5.2 (some t)).bind fun o6 =>
  (oI 0 3 r5.2 (some t)).bind fun v7 =>
  (oR 0 0 r5.2 (some t)).bind fun o8 =>
  (lA 20 r5.2 o8 x3).bind fun v9 =>
  (sA r5.2 o6 x3 (v7 + v9)).bind fun h10 =>
  (some (x2 + 1)).bind fun y11 =>
  fX0_renew_b64 N g17 t h10 x1 y11 x3
noncomputable def fX0_renew_b17 (N : Nat)  (t : Nat) (n : Nat) : Hs → Int32 → Int32 → Int32 → Option (Int32 × Hs) := lp (fun _ _ _ _ => none) (fun g h x1 x2 x3 => fX0_renew_b17_body N  g t h x1 x2 x3) n
set_option maxHeartbeats 4000000 in
set_option maxRecDepth 20000 in
theorem wX0_renew_b17_body {p : Program} {l : Launch} {e : Env} {s : State} {m : MethodId} {args : Array Value} {below : List Frame} {meth : Method} {c : Code} {G : Gl} {N : Nat} {h : Hs} {r : Int32 × Hs}  {g17 : Hs → Int32 → Int32 → Int32 → Option (Int32 × Hs)} {t : Nat} {x1 : Int32} {x2 : Int32} {x3 : Int32} (C : Cx p s m args meth c cX0_renew RX0 4 G) (hret : meth.sig.returnType = (some .int))  (hg17 : ∀ (h : Hs) (x1 : Int32) (x2 : Int32) (x3 : Int32), g17 h x1 x2 x3 = some r → V p l e rmX0_renew s m args below meth c G 4 (MQ below (QcG G (some (.inl r.1)) r.2) args s rmX0_renew.cells rmX0_renew.slots (AG G)) h 0 0 17 [some (.inr (some t)), some (.inl x1), some (.inl x2), some (.inl x3)] []) (hf : fX0_renew_b17_body N  g17 t h x1 x2 x3 = some r) : V p l e rmX0_renew s m args below meth c G 4 (MQ below (QcG G (some (.inl r.1)) r.2) args s rmX0_renew.cells rmX0_renew.slots (AG G)) h 0 0 17 [some (.inr (some t)), some (.inl x1), some (.inl x2), some (.inl x3)] [] := by
  unfold fX0_renew_b17_body at hf
  refine r_iload_n C dX0_renew_17 rfl ?_
  refine r_aload_n C dX0_renew_18 rfl ?_
  obtain ⟨v1, ev1, hf⟩ := bS hf
  refine r_getI C dX0_renew_19 fl_X0_22 rfl ev1 ?_
  refine r_icmp_ge (tgt := 70) C dX0_renew_22 (by decide) (fun hc => ?_) (fun hc => ?_)
  · have hf := ifT hf hc
    refine r_iload_n C dX0_renew_70 rfl ?_
    cases hf
    exact r_iret C dX0_renew_71 hret (by decide) (by decide)
  · have hf := ifF hf hc
    refine r_aload_n C dX0_renew_25 rfl ?_
    obtain ⟨o2, eo2, hf⟩ := bS hf
    refine r_getR C dX0_renew_26 fl_X0_15 rfl eo2 ?_
    refine r_iload_n C dX0_renew_29 rfl ?_
    obtain ⟨v3, ev3, hf⟩ := bS hf
    refine r_iald C dX0_renew_30 ev3 ?_
    refine r_aload_n C dX0_renew_31 rfl ?_
    obtain ⟨v4, ev4, hf⟩ := bS hf
    refine r_getI C dX0_renew_32 fl_X0_26 rfl ev4 ?_
    refine r_isub C dX0_renew_35 ?_
    refine r_iconst (v := 1) C dX0_renew_36 (by decide) ?_
    refine r_iload_n C dX0_renew_37 rfl ?_
    obtain ⟨r5, er5, hf⟩ := bS hf
    refine r_invSN1 (As := [.inl (v3 - v4), .inl 1, .inl x1]) (host := "StageMachine") C dX0_renew_38 mcX11_isWithin (by decide) wd_291 ⟨by decide, by decide⟩ ⟨by decide, by decide⟩ rfl (Nat.le_of_ble_eq_true rfl) (kX11_isWithin l G er5) ?_
    refine r_if_eq (tgt := 64) C dX0_renew_41 (by decide) (fun hc => ?_) (fun hc => ?_)
    · have hf := ifT hf hc
      exact V.sub (wX0_renew_b64 C hret hg17 hf) (LW_s rfl (LW_s rfl (LW_s rfl (LW_s rfl (LW_e)))))
    · have hf := ifF hf hc
      refine r_aload_n C dX0_renew_44 rfl ?_
      obtain ⟨o6, eo6, hf⟩ := bS hf
      refine r_getR C dX0_renew_45 fl_X0_15 rfl eo6 ?_
      refine r_iload_n C dX0_renew_48 rfl ?_
      refine r_aload_n C dX0_renew_49 rfl ?_
      obtain ⟨v7, ev7, hf⟩ := bS hf
      refine r_getI C dX0_renew_50 fl_X0_26 rfl ev7 ?_
      refine r_aload_n C dX0_renew_53 rfl ?_
      obtain ⟨o8, eo8, hf⟩ := bS hf
      refine r_getR C dX0_renew_54 fl_X0_9 rfl eo8 ?_
      refine r_iload_n C dX0_renew_57 rfl ?_
      obtain ⟨v9, ev9, hf⟩ := bS hf
      refine r_iald C dX0_renew_58 ev9 ?_
      refine r_iadd C dX0_renew_59 ?_
      obtain ⟨h10, eh10, hf⟩ := bS hf
      refine r_iast C dX0_renew_60 eh10 ?_
      obtain ⟨y11, ey11, hf⟩ := bS hf; cases ey11
      refine r_iinc (v := 1) C dX0_renew_61 rfl (by decide) (by decide) ?_
      exact V.sub (wX0_renew_b64 C hret hg17 hf) (LW_s rfl (LW_s rfl (LW_s rfl (LW_s rfl (LW_e)))))
theorem wX0_renew_b17 {p : Program} {l : Launch} {e : Env} {s : State} {m : MethodId} {args : Array Value} {below : List Frame} {meth : Method} {c : Code} {G : Gl} {N : Nat} {r : Int32 × Hs}  {t : Nat} (C : Cx p s m args meth c cX0_renew RX0 4 G) (hret : meth.sig.returnType = (some .int))  : ∀ (n : Nat) (h : Hs) (x1 : Int32) (x2 : Int32) (x3 : Int32), fX0_renew_b17 N  t n h x1 x2 x3 = some r → V p l e rmX0_renew s m args below meth c G 4 (MQ below (QcG G (some (.inl r.1)) r.2) args s rmX0_renew.cells rmX0_renew.slots (AG G)) h 0 0 17 [some (.inr (some t)), some (.inl x1), some (.inl x2), some (.inl x3)] [] := by
  intro n
  induction n with
  | zero => intro h x1 x2 x3 hf; exact absurd (show (none : Option (Int32 × Hs)) = some r from hf) (fun q => by cases q)
  | succ n ih => intro h x1 x2 x3 hf; exact wX0_renew_b17_body C hret  ih (show fX0_renew_b17_body N  (fX0_renew_b17 N  t n) t h x1 x2 x3 = some r from hf)
noncomputable def fX0_renew (N : Nat) (h : Hs) (t : Nat) (p1 : Int32) : Option (Int32 × Hs) :=
  (fX11_isWithin N h p1 0 300).bind fun r1 =>
  if r1.1 = 0 then (
  some ((-1), r1.2))
  else fX0_renew_b17 N t N r1.2 p1 0 0
set_option maxHeartbeats 4000000 in
set_option maxRecDepth 20000 in
theorem kX0_renew (l : Launch) (G : Gl) {N : Nat} {h : Hs} {t : Nat} {p1 : Int32} {r : Int32 × Hs} (hf : fX0_renew N h t p1 = some r) : CT l G yX0_renew cX0_renew 4 (some .int) rmX0_renew [.inr (some t), .inl p1] h (some (.inl r.1)) r.2 := by
  refine mk_CT (by decide) (Nat.le_of_ble_eq_true rfl) ?_
  intro p e s m args below meth c C hret hin
  unfold fX0_renew at hf
  refine r_iload_n C dX0_renew_0 rfl ?_
  refine r_iconst (v := 0) C dX0_renew_1 (by decide) ?_
  refine r_sipush (v := 300) C dX0_renew_2 (by decide) ?_
  obtain ⟨r1, er1, hf⟩ := bS hf
  refine r_invSN1 (As := [.inl p1, .inl 0, .inl 300]) (host := "StageMachine") C dX0_renew_5 mcX11_isWithin (by decide) wd_291 ⟨by decide, by decide⟩ ⟨by decide, by decide⟩ rfl (Nat.le_of_ble_eq_true rfl) (kX11_isWithin l G er1) ?_
  refine r_if_ne (tgt := 13) C dX0_renew_8 (by decide) (fun hc => ?_) (fun hc => ?_)
  · have hf := ifF hf hc
    refine r_iconst (v := 0) C dX0_renew_13 (by decide) ?_
    refine r_istore_n C dX0_renew_14 (by decide) ?_
    refine r_iconst (v := 0) C dX0_renew_15 (by decide) ?_
    refine r_istore_n C dX0_renew_16 (by decide) ?_
    exact V.sub (wX0_renew_b17 C hret N _ _ _ _ hf) (LW_s rfl (LW_s rfl (LW_s rfl (LW_s rfl (LW_e)))))
  · have hf := ifT hf hc
    refine r_iconst (v := -1) C dX0_renew_11 (by decide) ?_
    cases hf
    exact r_iret C dX0_renew_12 hret (by decide) (by decide)

theorem dX0_burning_0 : decode cX0_burning 0 = .ok (.iconst 0, 1) := by decide +kernel
theorem dX0_burning_1 : decode cX0_burning 1 = .ok (.istore_n 1, 1) := by decide +kernel
theorem dX0_burning_2 : decode cX0_burning 2 = .ok (.iconst 0, 1) := by decide +kernel
theorem dX0_burning_3 : decode cX0_burning 3 = .ok (.istore_n 2, 1) := by decide +kernel
theorem dX0_burning_4 : decode cX0_burning 4 = .ok (.iload_n 2, 1) := by decide +kernel
theorem dX0_burning_5 : decode cX0_burning 5 = .ok (.aload_n 0, 1) := by decide +kernel
theorem dX0_burning_6 : decode cX0_burning 6 = .ok (.getfield 22, 3) := by decide +kernel
theorem dX0_burning_9 : decode cX0_burning 9 = .ok (.if_icmp .ge 25, 3) := by decide +kernel
theorem dX0_burning_12 : decode cX0_burning 12 = .ok (.aload_n 0, 1) := by decide +kernel
theorem dX0_burning_13 : decode cX0_burning 13 = .ok (.getfield 15, 3) := by decide +kernel
theorem dX0_burning_16 : decode cX0_burning 16 = .ok (.iload_n 2, 1) := by decide +kernel
theorem dX0_burning_17 : decode cX0_burning 17 = .ok (.iaload, 1) := by decide +kernel
theorem dX0_burning_18 : decode cX0_burning 18 = .ok (.aload_n 0, 1) := by decide +kernel
theorem dX0_burning_19 : decode cX0_burning 19 = .ok (.getfield 26, 3) := by decide +kernel
theorem dX0_burning_22 : decode cX0_burning 22 = .ok (.if_icmp .le 6, 3) := by decide +kernel
theorem dX0_burning_25 : decode cX0_burning 25 = .ok (.iinc 1 1, 3) := by decide +kernel
theorem dX0_burning_28 : decode cX0_burning 28 = .ok (.iinc 2 1, 3) := by decide +kernel
theorem dX0_burning_31 : decode cX0_burning 31 = .ok (.goto (-27), 3) := by decide +kernel
theorem dX0_burning_34 : decode cX0_burning 34 = .ok (.iload_n 1, 1) := by decide +kernel
theorem dX0_burning_35 : decode cX0_burning 35 = .ok (.ireturn, 1) := by decide +kernel
abbrev rmX0_burning : Room := { frames := 0, cells := 0, slots := 0, locals := 0 }
noncomputable def fX0_burning_b28 (N : Nat) (g4 : Hs → Int32 → Int32 → Option (Int32 × Hs)) (t : Nat) (h : Hs) (x1 : Int32) (x2 : Int32) : Option (Int32 × Hs) :=
  (some (x2 + 1)).bind fun y1 =>
  g4 h x1 y1
set_option maxHeartbeats 4000000 in
set_option maxRecDepth 20000 in
theorem wX0_burning_b28 {p : Program} {l : Launch} {e : Env} {s : State} {m : MethodId} {args : Array Value} {below : List Frame} {meth : Method} {c : Code} {G : Gl} {N : Nat} {h : Hs} {r : Int32 × Hs} {g4 : Hs → Int32 → Int32 → Option (Int32 × Hs)} {t : Nat} {x1 : Int32} {x2 : Int32} (C : Cx p s m args meth c cX0_burning RX0 3 G) (hret : meth.sig.returnType = (some .int)) (hg4 : ∀ (h : Hs) (x1 : Int32) (x2 : Int32), g4 h x1 x2 = some r → V p l e rmX0_burning s m args below meth c G 3 (MQ below (QcG G (some (.inl r.1)) r.2) args s rmX0_burning.cells rmX0_burning.slots (AG G)) h 0 0 4 [some (.inr (some t)), some (.inl x1), some (.inl x2)] []) (hf : fX0_burning_b28 N g4 t h x1 x2 = some r) : V p l e rmX0_burning s m args below meth c G 3 (MQ below (QcG G (some (.inl r.1)) r.2) args s rmX0_burning.cells rmX0_burning.slots (AG G)) h 0 0 28 [some (.inr (some t)), some (.inl x1), some (.inl x2)] [] := by
  unfold fX0_burning_b28 at hf
  obtain ⟨y1, ey1, hf⟩ := bS hf; cases ey1
  refine r_iinc (v := 1) C dX0_burning_28 rfl (by decide) (by decide) ?_
  refine r_goto (tgt := 4) C dX0_burning_31 (by decide) ?_
  exact V.sub (hg4 _ _ _ hf) (LW_s rfl (LW_s rfl (LW_s rfl (LW_e))))
noncomputable def fX0_burning_b4_body (N : Nat)  (g4 : Hs → Int32 → Int32 → Option (Int32 × Hs)) (t : Nat) (h : Hs) (x1 : Int32) (x2 : Int32) : Option (Int32 × Hs) :=
  (oI 0 2 h (some t)).bind fun v1 =>
  if v1 ≤ x2 then (
  some (x1, h))
  else (oR 0 1 h (some t)).bind fun o2 =>
  (lA 20 h o2 x2).bind fun v3 =>
  (oI 0 3 h (some t)).bind fun v4 =>
  if v3 ≤ v4 then (
  fX0_burning_b28 N g4 t h x1 x2)
  else (some (x1 + 1)).bind fun y5 =>
  fX0_burning_b28 N g4 t h y5 x2
noncomputable def fX0_burning_b4 (N : Nat)  (t : Nat) (n : Nat) : Hs → Int32 → Int32 → Option (Int32 × Hs) := lp (fun _ _ _ => none) (fun g h x1 x2 => fX0_burning_b4_body N  g t h x1 x2) n
set_option maxHeartbeats 4000000 in
set_option maxRecDepth 20000 in
theorem wX0_burning_b4_body {p : Program} {l : Launch} {e : Env} {s : State} {m : MethodId} {args : Array Value} {below : List Frame} {meth : Method} {c : Code} {G : Gl} {N : Nat} {h : Hs} {r : Int32 × Hs}  {g4 : Hs → Int32 → Int32 → Option (Int32 × Hs)} {t : Nat} {x1 : Int32} {x2 : Int32} (C : Cx p s m args meth c cX0_burning RX0 3 G) (hret : meth.sig.returnType = (some .int))  (hg4 : ∀ (h : Hs) (x1 : Int32) (x2 : Int32), g4 h x1 x2 = some r → V p l e rmX0_burning s m args below meth c G 3 (MQ below (QcG G (some (.inl r.1)) r.2) args s rmX0_burning.cells rmX0_burning.slots (AG G)) h 0 0 4 [some (.inr (some t)), some (.inl x1), some (.inl x2)] []) (hf : fX0_burning_b4_body N  g4 t h x1 x2 = some r) : V p l e rmX0_burning s m args below meth c G 3 (MQ below (QcG G (some (.inl r.1)) r.2) args s rmX0_burning.cells rmX0_burning.slots (AG G)) h 0 0 4 [some (.inr (some t)), some (.inl x1), some (.inl x2)] [] := by
  unfold fX0_burning_b4_body at hf
  refine r_iload_n C dX0_burning_4 rfl ?_
  refine r_aload_n C dX0_burning_5 rfl ?_
  obtain ⟨v1, ev1, hf⟩ := bS hf
  refine r_getI C dX0_burning_6 fl_X0_22 rfl ev1 ?_
  refine r_icmp_ge (tgt := 34) C dX0_burning_9 (by decide) (fun hc => ?_) (fun hc => ?_)
  · have hf := ifT hf hc
    refine r_iload_n C dX0_burning_34 rfl ?_
    cases hf
    exact r_iret C dX0_burning_35 hret (by decide) (by decide)
  · have hf := ifF hf hc
    refine r_aload_n C dX0_burning_12 rfl ?_
    obtain ⟨o2, eo2, hf⟩ := bS hf
    refine r_getR C dX0_burning_13 fl_X0_15 rfl eo2 ?_
    refine r_iload_n C dX0_burning_16 rfl ?_
    obtain ⟨v3, ev3, hf⟩ := bS hf
    refine r_iald C dX0_burning_17 ev3 ?_
    refine r_aload_n C dX0_burning_18 rfl ?_
    obtain ⟨v4, ev4, hf⟩ := bS hf
    refine r_getI C dX0_burning_19 fl_X0_26 rfl ev4 ?_
    refine r_icmp_le (tgt := 28) C dX0_burning_22 (by decide) (fun hc => ?_) (fun hc => ?_)
    · have hf := ifT hf hc
      exact V.sub (wX0_burning_b28 C hret hg4 hf) (LW_s rfl (LW_s rfl (LW_s rfl (LW_e))))
    · have hf := ifF hf hc
      obtain ⟨y5, ey5, hf⟩ := bS hf; cases ey5
      refine r_iinc (v := 1) C dX0_burning_25 rfl (by decide) (by decide) ?_
      exact V.sub (wX0_burning_b28 C hret hg4 hf) (LW_s rfl (LW_s rfl (LW_s rfl (LW_e))))
theorem wX0_burning_b4 {p : Program} {l : Launch} {e : Env} {s : State} {m : MethodId} {args : Array Value} {below : List Frame} {meth : Method} {c : Code} {G : Gl} {N : Nat} {r : Int32 × Hs}  {t : Nat} (C : Cx p s m args meth c cX0_burning RX0 3 G) (hret : meth.sig.returnType = (some .int))  : ∀ (n : Nat) (h : Hs) (x1 : Int32) (x2 : Int32), fX0_burning_b4 N  t n h x1 x2 = some r → V p l e rmX0_burning s m args below meth c G 3 (MQ below (QcG G (some (.inl r.1)) r.2) args s rmX0_burning.cells rmX0_burning.slots (AG G)) h 0 0 4 [some (.inr (some t)), some (.inl x1), some (.inl x2)] [] := by
  intro n
  induction n with
  | zero => intro h x1 x2 hf; exact absurd (show (none : Option (Int32 × Hs)) = some r from hf) (fun q => by cases q)
  | succ n ih => intro h x1 x2 hf; exact wX0_burning_b4_body C hret  ih (show fX0_burning_b4_body N  (fX0_burning_b4 N  t n) t h x1 x2 = some r from hf)
noncomputable def fX0_burning (N : Nat) (h : Hs) (t : Nat)  : Option (Int32 × Hs) :=
  fX0_burning_b4 N t N h 0 0
set_option maxHeartbeats 4000000 in
set_option maxRecDepth 20000 in
theorem kX0_burning (l : Launch) (G : Gl) {N : Nat} {h : Hs} {t : Nat}  {r : Int32 × Hs} (hf : fX0_burning N h t  = some r) : CT l G yX0_burning cX0_burning 3 (some .int) rmX0_burning [.inr (some t)] h (some (.inl r.1)) r.2 := by
  refine mk_CT (by decide) (Nat.le_of_ble_eq_true rfl) ?_
  intro p e s m args below meth c C hret hin
  unfold fX0_burning at hf
  refine r_iconst (v := 0) C dX0_burning_0 (by decide) ?_
  refine r_istore_n C dX0_burning_1 (by decide) ?_
  refine r_iconst (v := 0) C dX0_burning_2 (by decide) ?_
  refine r_istore_n C dX0_burning_3 (by decide) ?_
  exact V.sub (wX0_burning_b4 C hret N _ _ _ hf) (LW_s rfl (LW_s rfl (LW_s rfl (LW_e))))

theorem dX0_leastLeft_0 : decode cX0_leastLeft 0 = .ok (.iconst (-1), 1) := by decide +kernel
theorem dX0_leastLeft_1 : decode cX0_leastLeft 1 = .ok (.istore_n 1, 1) := by decide +kernel
theorem dX0_leastLeft_2 : decode cX0_leastLeft 2 = .ok (.iconst 0, 1) := by decide +kernel
theorem dX0_leastLeft_3 : decode cX0_leastLeft 3 = .ok (.istore_n 2, 1) := by decide +kernel
theorem dX0_leastLeft_4 : decode cX0_leastLeft 4 = .ok (.iload_n 2, 1) := by decide +kernel
theorem dX0_leastLeft_5 : decode cX0_leastLeft 5 = .ok (.aload_n 0, 1) := by decide +kernel
theorem dX0_leastLeft_6 : decode cX0_leastLeft 6 = .ok (.getfield 22, 3) := by decide +kernel
theorem dX0_leastLeft_9 : decode cX0_leastLeft 9 = .ok (.if_icmp .ge 36, 3) := by decide +kernel
theorem dX0_leastLeft_12 : decode cX0_leastLeft 12 = .ok (.aload_n 0, 1) := by decide +kernel
theorem dX0_leastLeft_13 : decode cX0_leastLeft 13 = .ok (.getfield 15, 3) := by decide +kernel
theorem dX0_leastLeft_16 : decode cX0_leastLeft 16 = .ok (.iload_n 2, 1) := by decide +kernel
theorem dX0_leastLeft_17 : decode cX0_leastLeft 17 = .ok (.iaload, 1) := by decide +kernel
theorem dX0_leastLeft_18 : decode cX0_leastLeft 18 = .ok (.aload_n 0, 1) := by decide +kernel
theorem dX0_leastLeft_19 : decode cX0_leastLeft 19 = .ok (.getfield 26, 3) := by decide +kernel
theorem dX0_leastLeft_22 : decode cX0_leastLeft 22 = .ok (.isub, 1) := by decide +kernel
theorem dX0_leastLeft_23 : decode cX0_leastLeft 23 = .ok (.istore_n 3, 1) := by decide +kernel
theorem dX0_leastLeft_24 : decode cX0_leastLeft 24 = .ok (.iload_n 3, 1) := by decide +kernel
theorem dX0_leastLeft_25 : decode cX0_leastLeft 25 = .ok (.ifCond .le 14, 3) := by decide +kernel
theorem dX0_leastLeft_28 : decode cX0_leastLeft 28 = .ok (.iload_n 1, 1) := by decide +kernel
theorem dX0_leastLeft_29 : decode cX0_leastLeft 29 = .ok (.ifCond .lt 8, 3) := by decide +kernel
theorem dX0_leastLeft_32 : decode cX0_leastLeft 32 = .ok (.iload_n 3, 1) := by decide +kernel
theorem dX0_leastLeft_33 : decode cX0_leastLeft 33 = .ok (.iload_n 1, 1) := by decide +kernel
theorem dX0_leastLeft_34 : decode cX0_leastLeft 34 = .ok (.if_icmp .ge 5, 3) := by decide +kernel
theorem dX0_leastLeft_37 : decode cX0_leastLeft 37 = .ok (.iload_n 3, 1) := by decide +kernel
theorem dX0_leastLeft_38 : decode cX0_leastLeft 38 = .ok (.istore_n 1, 1) := by decide +kernel
theorem dX0_leastLeft_39 : decode cX0_leastLeft 39 = .ok (.iinc 2 1, 3) := by decide +kernel
theorem dX0_leastLeft_42 : decode cX0_leastLeft 42 = .ok (.goto (-38), 3) := by decide +kernel
theorem dX0_leastLeft_45 : decode cX0_leastLeft 45 = .ok (.iload_n 1, 1) := by decide +kernel
theorem dX0_leastLeft_46 : decode cX0_leastLeft 46 = .ok (.ireturn, 1) := by decide +kernel
abbrev rmX0_leastLeft : Room := { frames := 0, cells := 0, slots := 0, locals := 0 }
noncomputable def fX0_leastLeft_b39 (N : Nat) (g4 : Hs → Int32 → Int32 → Option (Int32 × Hs)) (t : Nat) (h : Hs) (x1 : Int32) (x2 : Int32) : Option (Int32 × Hs) :=
  (some (x2 + 1)).bind fun y1 =>
  g4 h x1 y1
set_option maxHeartbeats 4000000 in
set_option maxRecDepth 20000 in
theorem wX0_leastLeft_b39 {p : Program} {l : Launch} {e : Env} {s : State} {m : MethodId} {args : Array Value} {below : List Frame} {meth : Method} {c : Code} {G : Gl} {N : Nat} {h : Hs} {r : Int32 × Hs} {g4 : Hs → Int32 → Int32 → Option (Int32 × Hs)} {t : Nat} {x1 : Int32} {x2 : Int32} (C : Cx p s m args meth c cX0_leastLeft RX0 4 G) (hret : meth.sig.returnType = (some .int)) (hg4 : ∀ (h : Hs) (x1 : Int32) (x2 : Int32), g4 h x1 x2 = some r → V p l e rmX0_leastLeft s m args below meth c G 4 (MQ below (QcG G (some (.inl r.1)) r.2) args s rmX0_leastLeft.cells rmX0_leastLeft.slots (AG G)) h 0 0 4 [some (.inr (some t)), some (.inl x1), some (.inl x2), none] []) (hf : fX0_leastLeft_b39 N g4 t h x1 x2 = some r) : V p l e rmX0_leastLeft s m args below meth c G 4 (MQ below (QcG G (some (.inl r.1)) r.2) args s rmX0_leastLeft.cells rmX0_leastLeft.slots (AG G)) h 0 0 39 [some (.inr (some t)), some (.inl x1), some (.inl x2), none] [] := by
  unfold fX0_leastLeft_b39 at hf
  obtain ⟨y1, ey1, hf⟩ := bS hf; cases ey1
  refine r_iinc (v := 1) C dX0_leastLeft_39 rfl (by decide) (by decide) ?_
  refine r_goto (tgt := 4) C dX0_leastLeft_42 (by decide) ?_
  exact V.sub (hg4 _ _ _ hf) (LW_s rfl (LW_s rfl (LW_s rfl (LW_n (LW_e)))))
noncomputable def fX0_leastLeft_b37 (N : Nat) (g4 : Hs → Int32 → Int32 → Option (Int32 × Hs)) (t : Nat) (h : Hs) (x2 : Int32) (x3 : Int32) : Option (Int32 × Hs) :=
  fX0_leastLeft_b39 N g4 t h x3 x2
set_option maxHeartbeats 4000000 in
set_option maxRecDepth 20000 in
theorem wX0_leastLeft_b37 {p : Program} {l : Launch} {e : Env} {s : State} {m : MethodId} {args : Array Value} {below : List Frame} {meth : Method} {c : Code} {G : Gl} {N : Nat} {h : Hs} {r : Int32 × Hs} {g4 : Hs → Int32 → Int32 → Option (Int32 × Hs)} {t : Nat} {x2 : Int32} {x3 : Int32} (C : Cx p s m args meth c cX0_leastLeft RX0 4 G) (hret : meth.sig.returnType = (some .int)) (hg4 : ∀ (h : Hs) (x1 : Int32) (x2 : Int32), g4 h x1 x2 = some r → V p l e rmX0_leastLeft s m args below meth c G 4 (MQ below (QcG G (some (.inl r.1)) r.2) args s rmX0_leastLeft.cells rmX0_leastLeft.slots (AG G)) h 0 0 4 [some (.inr (some t)), some (.inl x1), some (.inl x2), none] []) (hf : fX0_leastLeft_b37 N g4 t h x2 x3 = some r) : V p l e rmX0_leastLeft s m args below meth c G 4 (MQ below (QcG G (some (.inl r.1)) r.2) args s rmX0_leastLeft.cells rmX0_leastLeft.slots (AG G)) h 0 0 37 [some (.inr (some t)), none, some (.inl x2), some (.inl x3)] [] := by
  unfold fX0_leastLeft_b37 at hf
  refine r_iload_n C dX0_leastLeft_37 rfl ?_
  refine r_istore_n C dX0_leastLeft_38 (by decide) ?_
  exact V.sub (wX0_leastLeft_b39 C hret hg4 hf) (LW_s rfl (LW_s rfl (LW_s rfl (LW_n (LW_e)))))
noncomputable def fX0_leastLeft_b4_body (N : Nat)  (g4 : Hs → Int32 → Int32 → Option (Int32 × Hs)) (t : Nat) (h : Hs) (x1 : Int32) (x2 : Int32) : Option (Int32 × Hs) :=
  (oI 0 2 h (some t)).bind fun v1 =>
  if v1 ≤ x2 then (
  some (x1, h))
  else (oR 0 1 h (some t)).bind fun o2 =>
  (lA 20 h o2 x2).bind fun v3 =>
  (oI 0 3 h (some t)).bind fun v4 =>
  (some (v3 - v4)).bind fun y5 =>
  if y5 ≤ 0 then (
  fX0_leastLeft_b39 N g4 t h x1 x2)
  else if x1 < 0 then (
  fX0_leastLeft_b37 N g4 t h x2 y5)
  else if x1 ≤ y5 then (
  fX0_leastLeft_b39 N g4 t h x1 x2)
  else fX0_leastLeft_b37 N g4 t h x2 y5
noncomputable def fX0_leastLeft_b4 (N : Nat)  (t : Nat) (n : Nat) : Hs → Int32 → Int32 → Option (Int32 × Hs) := lp (fun _ _ _ => none) (fun g h x1 x2 => fX0_leastLeft_b4_body N  g t h x1 x2) n
set_option maxHeartbeats 4000000 in
set_option maxRecDepth 20000 in
theorem wX0_leastLeft_b4_body {p : Program} {l : Launch} {e : Env} {s : State} {m : MethodId} {args : Array Value} {below : List Frame} {meth : Method} {c : Code} {G : Gl} {N : Nat} {h : Hs} {r : Int32 × Hs}  {g4 : Hs → Int32 → Int32 → Option (Int32 × Hs)} {t : Nat} {x1 : Int32} {x2 : Int32} (C : Cx p s m args meth c cX0_leastLeft RX0 4 G) (hret : meth.sig.returnType = (some .int))  (hg4 : ∀ (h : Hs) (x1 : Int32) (x2 : Int32), g4 h x1 x2 = some r → V p l e rmX0_leastLeft s m args below meth c G 4 (MQ below (QcG G (some (.inl r.1)) r.2) args s rmX0_leastLeft.cells rmX0_leastLeft.slots (AG G)) h 0 0 4 [some (.inr (some t)), some (.inl x1), some (.inl x2), none] []) (hf : fX0_leastLeft_b4_body N  g4 t h x1 x2 = some r) : V p l e rmX0_leastLeft s m args below meth c G 4 (MQ below (QcG G (some (.inl r.1)) r.2) args s rmX0_leastLeft.cells rmX0_leastLeft.slots (AG G)) h 0 0 4 [some (.inr (some t)), some (.inl x1), some (.inl x2), none] [] := by
  unfold fX0_leastLeft_b4_body at hf
  refine r_iload_n C dX0_leastLeft_4 rfl ?_
  refine r_aload_n C dX0_leastLeft_5 rfl ?_
  obtain ⟨v1, ev1, hf⟩ := bS hf
  refine r_getI C dX0_leastLeft_6 fl_X0_22 rfl ev1 ?_
  refine r_icmp_ge (tgt := 45) C dX0_leastLeft_9 (by decide) (fun hc => ?_) (fun hc => ?_)
  · have hf := ifT hf hc
    refine r_iload_n C dX0_leastLeft_45 rfl ?_
    cases hf
    exact r_iret C dX0_leastLeft_46 hret (by decide) (by decide)
  · have hf := ifF hf hc
    refine r_aload_n C dX0_leastLeft_12 rfl ?_
    obtain ⟨o2, eo2, hf⟩ := bS hf
    refine r_getR C dX0_leastLeft_13 fl_X0_15 rfl eo2 ?_
    refine r_iload_n C dX0_leastLeft_16 rfl ?_
    obtain ⟨v3, ev3, hf⟩ := bS hf
    refine r_iald C dX0_leastLeft_17 ev3 ?_
    refine r_aload_n C dX0_leastLeft_18 rfl ?_
    obtain ⟨v4, ev4, hf⟩ := bS hf
    refine r_getI C dX0_leastLeft_19 fl_X0_26 rfl ev4 ?_
    refine r_isub C dX0_leastLeft_22 ?_
    obtain ⟨y5, ey5, hf⟩ := bS hf; cases ey5
    refine r_istore_n C dX0_leastLeft_23 (by decide) ?_
    refine r_iload_n C dX0_leastLeft_24 rfl ?_
    refine r_if_le (tgt := 39) C dX0_leastLeft_25 (by decide) (fun hc => ?_) (fun hc => ?_)
    · have hf := ifT hf hc
      exact V.sub (wX0_leastLeft_b39 C hret hg4 hf) (LW_s rfl (LW_s rfl (LW_s rfl (LW_n (LW_e)))))
    · have hf := ifF hf hc
      refine r_iload_n C dX0_leastLeft_28 rfl ?_
      refine r_if_lt (tgt := 37) C dX0_leastLeft_29 (by decide) (fun hc => ?_) (fun hc => ?_)
      · have hf := ifT hf hc
        exact V.sub (wX0_leastLeft_b37 C hret hg4 hf) (LW_s rfl (LW_n (LW_s rfl (LW_s rfl (LW_e)))))
      · have hf := ifF hf hc
        refine r_iload_n C dX0_leastLeft_32 rfl ?_
        refine r_iload_n C dX0_leastLeft_33 rfl ?_
        refine r_icmp_ge (tgt := 39) C dX0_leastLeft_34 (by decide) (fun hc => ?_) (fun hc => ?_)
        · have hf := ifT hf hc
          exact V.sub (wX0_leastLeft_b39 C hret hg4 hf) (LW_s rfl (LW_s rfl (LW_s rfl (LW_n (LW_e)))))
        · have hf := ifF hf hc
          exact V.sub (wX0_leastLeft_b37 C hret hg4 hf) (LW_s rfl (LW_n (LW_s rfl (LW_s rfl (LW_e)))))
theorem wX0_leastLeft_b4 {p : Program} {l : Launch} {e : Env} {s : State} {m : MethodId} {args : Array Value} {below : List Frame} {meth : Method} {c : Code} {G : Gl} {N : Nat} {r : Int32 × Hs}  {t : Nat} (C : Cx p s m args meth c cX0_leastLeft RX0 4 G) (hret : meth.sig.returnType = (some .int))  : ∀ (n : Nat) (h : Hs) (x1 : Int32) (x2 : Int32), fX0_leastLeft_b4 N  t n h x1 x2 = some r → V p l e rmX0_leastLeft s m args below meth c G 4 (MQ below (QcG G (some (.inl r.1)) r.2) args s rmX0_leastLeft.cells rmX0_leastLeft.slots (AG G)) h 0 0 4 [some (.inr (some t)), some (.inl x1), some (.inl x2), none] [] := by
  intro n
  induction n with
  | zero => intro h x1 x2 hf; exact absurd (show (none : Option (Int32 × Hs)) = some r from hf) (fun q => by cases q)
  | succ n ih => intro h x1 x2 hf; exact wX0_leastLeft_b4_body C hret  ih (show fX0_leastLeft_b4_body N  (fX0_leastLeft_b4 N  t n) t h x1 x2 = some r from hf)
noncomputable def fX0_leastLeft (N : Nat) (h : Hs) (t : Nat)  : Option (Int32 × Hs) :=
  fX0_leastLeft_b4 N t N h (-1) 0
set_option maxHeartbeats 4000000 in
set_option maxRecDepth 20000 in
theorem kX0_leastLeft (l : Launch) (G : Gl) {N : Nat} {h : Hs} {t : Nat}  {r : Int32 × Hs} (hf : fX0_leastLeft N h t  = some r) : CT l G yX0_leastLeft cX0_leastLeft 4 (some .int) rmX0_leastLeft [.inr (some t)] h (some (.inl r.1)) r.2 := by
  refine mk_CT (by decide) (Nat.le_of_ble_eq_true rfl) ?_
  intro p e s m args below meth c C hret hin
  unfold fX0_leastLeft at hf
  refine r_iconst (v := -1) C dX0_leastLeft_0 (by decide) ?_
  refine r_istore_n C dX0_leastLeft_1 (by decide) ?_
  refine r_iconst (v := 0) C dX0_leastLeft_2 (by decide) ?_
  refine r_istore_n C dX0_leastLeft_3 (by decide) ?_
  exact V.sub (wX0_leastLeft_b4 C hret N _ _ _ hf) (LW_s rfl (LW_s rfl (LW_s rfl (LW_n (LW_e)))))

theorem dX0_tell_0 : decode cX0_tell 0 = .ok (.iload_n 1, 1) := by decide +kernel
theorem dX0_tell_1 : decode cX0_tell 1 = .ok (.tableswitch 47 0 2 #[27, 37, 42], 27) := by decide +kernel
theorem dX0_tell_28 : decode cX0_tell 28 = .ok (.aload_n 0, 1) := by decide +kernel
theorem dX0_tell_29 : decode cX0_tell 29 = .ok (.getfield 22, 3) := by decide +kernel
theorem dX0_tell_32 : decode cX0_tell 32 = .ok (.aload_n 0, 1) := by decide +kernel
theorem dX0_tell_33 : decode cX0_tell 33 = .ok (.invokevirtual 29, 3) := by decide +kernel
theorem dX0_tell_36 : decode cX0_tell 36 = .ok (.isub, 1) := by decide +kernel
theorem dX0_tell_37 : decode cX0_tell 37 = .ok (.ireturn, 1) := by decide +kernel
theorem dX0_tell_38 : decode cX0_tell 38 = .ok (.aload_n 0, 1) := by decide +kernel
theorem dX0_tell_39 : decode cX0_tell 39 = .ok (.invokevirtual 29, 3) := by decide +kernel
theorem dX0_tell_42 : decode cX0_tell 42 = .ok (.ireturn, 1) := by decide +kernel
theorem dX0_tell_43 : decode cX0_tell 43 = .ok (.aload_n 0, 1) := by decide +kernel
theorem dX0_tell_44 : decode cX0_tell 44 = .ok (.invokevirtual 33, 3) := by decide +kernel
theorem dX0_tell_47 : decode cX0_tell 47 = .ok (.ireturn, 1) := by decide +kernel
theorem dX0_tell_48 : decode cX0_tell 48 = .ok (.iconst (-1), 1) := by decide +kernel
theorem dX0_tell_49 : decode cX0_tell 49 = .ok (.ireturn, 1) := by decide +kernel
abbrev rmX0_tell : Room := { frames := 1, cells := 0, slots := 0, locals := 23 }
noncomputable def fX0_tell (N : Nat) (h : Hs) (t : Nat) (p1 : Int32) : Option (Int32 × Hs) :=
  if p1 = 0 then (
  (oI 0 2 h (some t)).bind fun v1 =>
  (rc 0 h (some t)).bind fun a3 =>
  (fX0_burning N h a3 ).bind fun r2 =>
  some (v1 - r2.1, r2.2))
  else if p1 = 1 then (
  (rc 0 h (some t)).bind fun a5 =>
  (fX0_burning N h a5 ).bind fun r4 =>
  some (r4.1, r4.2))
  else if p1 = 2 then (
  (rc 0 h (some t)).bind fun a7 =>
  (fX0_leastLeft N h a7 ).bind fun r6 =>
  some (r6.1, r6.2))
  else some ((-1), h)
set_option maxHeartbeats 4000000 in
set_option maxRecDepth 20000 in
theorem kX0_tell (l : Launch) (G : Gl) {N : Nat} {h : Hs} {t : Nat} {p1 : Int32} {r : Int32 × Hs} (hf : fX0_tell N h t p1 = some r) : CT l G yX0_tell cX0_tell 2 (some .int) rmX0_tell [.inr (some t), .inl p1] h (some (.inl r.1)) r.2 := by
  refine mk_CT (by decide) (Nat.le_of_ble_eq_true rfl) ?_
  intro p e s m args below meth c C hret hin
  unfold fX0_tell at hf
  refine r_iload_n C dX0_tell_0 rfl ?_
  by_cases k0 : p1 = 0
  · have hf := ifT hf k0
    refine r_tabIn (tgt := 28) (off := 27) C dX0_tell_1 (by rw [k0]; decide) (by rw [k0]; decide) (by rw [k0]; rfl) (by decide) ?_
    refine r_aload_n C dX0_tell_28 rfl ?_
    obtain ⟨v1, ev1, hf⟩ := bS hf
    refine r_getI C dX0_tell_29 fl_X0_22 rfl ev1 ?_
    refine r_aload_n C dX0_tell_32 rfl ?_
    obtain ⟨a3, ea3, hf⟩ := bS hf
    obtain ⟨r2, er2, hf⟩ := bS hf
    refine r_invV1 (As := []) (ci := 0) C dX0_tell_33 mcX0_burning wd_874 wd_876 wp_25 rfl rfl (by decide) ⟨by decide, by decide⟩ ⟨by decide, by decide⟩ rfl (Nat.le_of_ble_eq_true rfl) ea3 (kX0_burning l G er2) ?_
    refine r_isub C dX0_tell_36 ?_
    cases hf
    exact r_iret C dX0_tell_37 hret (by decide) (by decide)
  · have hf := ifF hf k0
    by_cases k1 : p1 = 1
    · have hf := ifT hf k1
      refine r_tabIn (tgt := 38) (off := 37) C dX0_tell_1 (by rw [k1]; decide) (by rw [k1]; decide) (by rw [k1]; rfl) (by decide) ?_
      refine r_aload_n C dX0_tell_38 rfl ?_
      obtain ⟨a5, ea5, hf⟩ := bS hf
      obtain ⟨r4, er4, hf⟩ := bS hf
      refine r_invV1 (As := []) (ci := 0) C dX0_tell_39 mcX0_burning wd_874 wd_876 wp_25 rfl rfl (by decide) ⟨by decide, by decide⟩ ⟨by decide, by decide⟩ rfl (Nat.le_of_ble_eq_true rfl) ea5 (kX0_burning l G er4) ?_
      cases hf
      exact r_iret C dX0_tell_42 hret (by decide) (by decide)
    · have hf := ifF hf k1
      by_cases k2 : p1 = 2
      · have hf := ifT hf k2
        refine r_tabIn (tgt := 43) (off := 42) C dX0_tell_1 (by rw [k2]; decide) (by rw [k2]; decide) (by rw [k2]; rfl) (by decide) ?_
        refine r_aload_n C dX0_tell_43 rfl ?_
        obtain ⟨a7, ea7, hf⟩ := bS hf
        obtain ⟨r6, er6, hf⟩ := bS hf
        refine r_invV1 (As := []) (ci := 0) C dX0_tell_44 mcX0_leastLeft wd_878 wd_880 wp_26 rfl rfl (by decide) ⟨by decide, by decide⟩ ⟨by decide, by decide⟩ rfl (Nat.le_of_ble_eq_true rfl) ea7 (kX0_leastLeft l G er6) ?_
        cases hf
        exact r_iret C dX0_tell_47 hret (by decide) (by decide)
      · have hf := ifF hf k2
        refine r_tabOut (tgt := 48) C dX0_tell_1 (sw_out (lo := 0) (hi := 2) [0, 1, 2] (by decide) (List.forall_mem_cons.mpr ⟨k0, List.forall_mem_cons.mpr ⟨k1, List.forall_mem_cons.mpr ⟨k2, fun _ q => absurd q List.not_mem_nil⟩⟩⟩)) (by decide) ?_
        refine r_iconst (v := -1) C dX0_tell_48 (by decide) ?_
        cases hf
        exact r_iret C dX0_tell_49 hret (by decide) (by decide)
end
