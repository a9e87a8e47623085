-- ===== PART A: goes FIRST, ahead of the names: the tables' words, and 'selects' of the private methods out of them =====
def ch_1_0 : List Cond := [Cond.initialized "StageMachineLaw", Cond.initialized "StageMachine", Cond.initialized "StageMachine$Tape", Cond.initialized "StageMachine$Candles", Cond.initialized "StageMachine$Stock", Cond.initialized "StageMachine$Stage", Cond.initialized "StageMachine$Turning", Cond.initialized "StageMachine$Stop", Cond.initialized "StageMachine$Change", Cond.initialized "StageMachineModel", Cond.initialized "StageMachine$Thing", Cond.initialized "java/util/Arrays", Cond.initialized "StageMachine$Drum", Cond.initialized "StageMachine$Rope", Cond.initialized "java/lang/Math", Cond.initialized "java/lang/System"]
def ch_1_1 : List Cond := [Cond.initialized "StageMachine$Panel", Cond.initialized "java/lang/Integer", Cond.classLink "StageMachineLaw" 7 "StageMachine", Cond.instantiable "StageMachine" 7, Cond.methodLink "StageMachineLaw" 9 ⟨"StageMachine", "<init>", "()V"⟩, Cond.instanceMethod ⟨"StageMachine", "<init>", "()V"⟩, Cond.code ⟨"StageMachine", "<init>", "()V"⟩ prog_1_method_1_code 2 none, Cond.methodLink "StageMachine" 1 ⟨"java/lang/Object", "<init>", "()V"⟩, Cond.instanceMethod ⟨"java/lang/Object", "<init>", "()V"⟩, Cond.code ⟨"java/lang/Object", "<init>", "()V"⟩ object_method_1_code 1 none, Cond.classLink "StageMachine" 7 "StageMachine$Tape", Cond.instantiable "StageMachine$Tape" 8, Cond.methodLinkNest "StageMachine" 9 ⟨"StageMachine$Tape", "<init>", "()V"⟩ "StageMachine", Cond.instanceMethod ⟨"StageMachine$Tape", "<init>", "()V"⟩, Cond.code ⟨"StageMachine$Tape", "<init>", "()V"⟩ prog_10_method_1_code 1 none, Cond.methodLink "StageMachine$Tape" 3 ⟨"java/lang/Object", "<init>", "()V"⟩]
def ch_1_2 : List Cond := [Cond.fieldLink "StageMachine$Tape" 9 "StageMachine$Tape" "bytes" "[I", Cond.fieldLink "StageMachine$Tape" 15 "StageMachine$Tape" "letters" "[I", Cond.fieldLink "StageMachine" 226 "StageMachine$Tape" "letters" "[I", Cond.fieldLink "StageMachine$Tape" 18 "StageMachine$Tape" "firsts" "[I", Cond.fieldLink "StageMachine" 219 "StageMachine$Tape" "firsts" "[I", Cond.fieldLink "StageMachine$Tape" 21 "StageMachine$Tape" "seconds" "[I", Cond.fieldLink "StageMachine" 223 "StageMachine$Tape" "seconds" "[I", Cond.fieldLink "StageMachine$Tape" 28 "StageMachine$Tape" "length" "I", Cond.fieldLink "StageMachine" 150 "StageMachine$Tape" "length" "I", Cond.fieldLink "StageMachine$Tape" 35 "StageMachine$Tape" "lineCount" "I", Cond.fieldLink "StageMachine" 161 "StageMachine$Tape" "lineCount" "I", Cond.fieldLink "StageMachine$Tape" 32 "StageMachine$Tape" "next" "I", Cond.fieldLink "StageMachine$Tape" 57 "StageMachine$Tape" "number" "I", Cond.laysFinal "StageMachine$Tape" "StageMachine$Tape" "bytes" "[I", Cond.soleField "StageMachine$Tape" "bytes", Cond.laysFinal "StageMachine$Tape" "StageMachine$Tape" "letters" "[I"]
def ch_1_3 : List Cond := [Cond.soleField "StageMachine$Tape" "letters", Cond.laysFinal "StageMachine$Tape" "StageMachine$Tape" "firsts" "[I", Cond.soleField "StageMachine$Tape" "firsts", Cond.laysFinal "StageMachine$Tape" "StageMachine$Tape" "seconds" "[I", Cond.soleField "StageMachine$Tape" "seconds", Cond.lays "StageMachine$Tape" "StageMachine$Tape" "length" "I", Cond.soleField "StageMachine$Tape" "length", Cond.lays "StageMachine$Tape" "StageMachine$Tape" "lineCount" "I", Cond.soleField "StageMachine$Tape" "lineCount", Cond.lays "StageMachine$Tape" "StageMachine$Tape" "next" "I", Cond.soleField "StageMachine$Tape" "next", Cond.lays "StageMachine$Tape" "StageMachine$Tape" "number" "I", Cond.soleField "StageMachine$Tape" "number", Cond.superclass "StageMachine$Tape" "java/lang/Object", Cond.arrayClass FieldType.int, Cond.classLink "StageMachine" 16 "StageMachine$Candles"]
def ch_1_4 : List Cond := [Cond.instantiable "StageMachine$Candles" 4, Cond.methodLinkNest "StageMachine" 18 ⟨"StageMachine$Candles", "<init>", "()V"⟩ "StageMachine", Cond.instanceMethod ⟨"StageMachine$Candles", "<init>", "()V"⟩, Cond.code ⟨"StageMachine$Candles", "<init>", "()V"⟩ prog_2_method_1_code 1 none, Cond.methodLink "StageMachine$Candles" 3 ⟨"java/lang/Object", "<init>", "()V"⟩, Cond.fieldLink "StageMachine$Candles" 9 "StageMachine$Candles" "lengths" "[I", Cond.fieldLink "StageMachine$Candles" 15 "StageMachine$Candles" "ends" "[I", Cond.fieldLink "StageMachine$Candles" 22 "StageMachine$Candles" "number" "I", Cond.fieldLink "StageMachine" 210 "StageMachine$Candles" "number" "I", Cond.fieldLink "StageMachine$Candles" 26 "StageMachine$Candles" "time" "I", Cond.fieldLink "StageMachine" 207 "StageMachine$Candles" "time" "I", Cond.laysFinal "StageMachine$Candles" "StageMachine$Candles" "lengths" "[I", Cond.soleField "StageMachine$Candles" "lengths", Cond.laysFinal "StageMachine$Candles" "StageMachine$Candles" "ends" "[I", Cond.soleField "StageMachine$Candles" "ends", Cond.lays "StageMachine$Candles" "StageMachine$Candles" "number" "I"]
def ch_1_5 : List Cond := [Cond.soleField "StageMachine$Candles" "number", Cond.lays "StageMachine$Candles" "StageMachine$Candles" "time" "I", Cond.soleField "StageMachine$Candles" "time", Cond.superclass "StageMachine$Candles" "java/lang/Object", Cond.classLink "StageMachine" 23 "StageMachine$Stock", Cond.instantiable "StageMachine$Stock" 7, Cond.methodLinkNest "StageMachine" 25 ⟨"StageMachine$Stock", "<init>", "()V"⟩ "StageMachine", Cond.instanceMethod ⟨"StageMachine$Stock", "<init>", "()V"⟩, Cond.code ⟨"StageMachine$Stock", "<init>", "()V"⟩ prog_8_method_1_code 1 none, Cond.methodLink "StageMachine$Stock" 3 ⟨"java/lang/Object", "<init>", "()V"⟩, Cond.classLink "StageMachine$Stock" 9 "StageMachine$Panel", Cond.arrayOver (FieldType.object "StageMachine$Panel"), Cond.fieldLink "StageMachine$Stock" 11 "StageMachine$Stock" "flats" "[LStageMachine$Panel;", Cond.fieldLink "StageMachine$Stock" 17 "StageMachine$Stock" "wants" "[LStageMachine$Panel;", Cond.fieldLink "StageMachine$Stock" 20 "StageMachine$Stock" "givenFlats" "[I", Cond.fieldLink "StageMachine$Stock" 24 "StageMachine$Stock" "sums" "[I"]
def ch_1_6 : List Cond := [Cond.fieldLink "StageMachine$Stock" 31 "StageMachine$Stock" "flatCount" "I", Cond.fieldLink "StageMachine" 213 "StageMachine$Stock" "flatCount" "I", Cond.fieldLink "StageMachine$Stock" 38 "StageMachine$Stock" "wantCount" "I", Cond.fieldLink "StageMachine$Stock" 81 "StageMachine$Stock" "givenCount" "I", Cond.laysFinal "StageMachine$Stock" "StageMachine$Stock" "flats" "[LStageMachine$Panel;", Cond.soleField "StageMachine$Stock" "flats", Cond.laysFinal "StageMachine$Stock" "StageMachine$Stock" "wants" "[LStageMachine$Panel;", Cond.soleField "StageMachine$Stock" "wants", Cond.laysFinal "StageMachine$Stock" "StageMachine$Stock" "givenFlats" "[I", Cond.soleField "StageMachine$Stock" "givenFlats", Cond.laysFinal "StageMachine$Stock" "StageMachine$Stock" "sums" "[I", Cond.soleField "StageMachine$Stock" "sums", Cond.lays "StageMachine$Stock" "StageMachine$Stock" "flatCount" "I", Cond.soleField "StageMachine$Stock" "flatCount", Cond.lays "StageMachine$Stock" "StageMachine$Stock" "wantCount" "I", Cond.soleField "StageMachine$Stock" "wantCount"]
def ch_1_7 : List Cond := [Cond.lays "StageMachine$Stock" "StageMachine$Stock" "givenCount" "I", Cond.soleField "StageMachine$Stock" "givenCount", Cond.superclass "StageMachine$Stock" "java/lang/Object", Cond.classLink "StageMachine" 30 "StageMachine$Stage", Cond.instantiable "StageMachine$Stage" 15, Cond.methodLinkNest "StageMachine" 32 ⟨"StageMachine$Stage", "<init>", "()V"⟩ "StageMachine", Cond.instanceMethod ⟨"StageMachine$Stage", "<init>", "()V"⟩, Cond.code ⟨"StageMachine$Stage", "<init>", "()V"⟩ prog_7_method_1_code 1 none, Cond.methodLink "StageMachine$Stage" 3 ⟨"java/lang/Object", "<init>", "()V"⟩, Cond.classLink "StageMachine$Stage" 9 "StageMachine$Thing", Cond.arrayOver (FieldType.object "StageMachine$Thing"), Cond.classLink "StageMachine$Stage" 17 "StageMachine$Drum", Cond.arrayOver (FieldType.object "StageMachine$Drum"), Cond.classLink "StageMachine$Stage" 23 "StageMachine$Rope", Cond.arrayOver (FieldType.object "StageMachine$Rope"), Cond.constant "StageMachine$Stage" 42 (99999)]
def ch_1_8 : List Cond := [Cond.fieldLink "StageMachine$Stage" 11 "StageMachine$Stage" "things" "[LStageMachine$Thing;", Cond.fieldLink "StageMachine$Change" 52 "StageMachine$Stage" "things" "[LStageMachine$Thing;", Cond.fieldLink "StageMachine$Turning" 97 "StageMachine$Stage" "things" "[LStageMachine$Thing;", Cond.fieldLink "StageMachine$Stage" 19 "StageMachine$Stage" "drums" "[LStageMachine$Drum;", Cond.fieldLink "StageMachine$Change" 100 "StageMachine$Stage" "drums" "[LStageMachine$Drum;", Cond.fieldLink "StageMachine$Stage" 25 "StageMachine$Stage" "ropes" "[LStageMachine$Rope;", Cond.fieldLink "StageMachine$Change" 74 "StageMachine$Stage" "ropes" "[LStageMachine$Rope;", Cond.fieldLink "StageMachine$Turning" 82 "StageMachine$Stage" "ropes" "[LStageMachine$Rope;", Cond.fieldLink "StageMachine$Stage" 29 "StageMachine$Stage" "weights" "[I", Cond.fieldLink "StageMachine$Stage" 33 "StageMachine$Stage" "keptWeights" "[I", Cond.fieldLink "StageMachine$Stage" 36 "StageMachine$Stage" "catches" "[I", Cond.fieldLink "StageMachine$Stage" 39 "StageMachine$Stage" "catchCounts" "[I", Cond.fieldLink "StageMachine$Stage" 47 "StageMachine$Stage" "thingCount" "I", Cond.fieldLink "StageMachine$Change" 46 "StageMachine$Stage" "thingCount" "I", Cond.fieldLink "StageMachine$Turning" 94 "StageMachine$Stage" "thingCount" "I", Cond.fieldLink "StageMachine" 192 "StageMachine$Stage" "thingCount" "I"]
def ch_1_9 : List Cond := [Cond.fieldLink "StageMachine$Stage" 54 "StageMachine$Stage" "drumCount" "I", Cond.fieldLink "StageMachine$Change" 97 "StageMachine$Stage" "drumCount" "I", Cond.fieldLink "StageMachine" 195 "StageMachine$Stage" "drumCount" "I", Cond.fieldLink "StageMachine$Change" 71 "StageMachine$Stage" "ropeCount" "I", Cond.fieldLink "StageMachine$Stage" 57 "StageMachine$Stage" "ropeCount" "I", Cond.fieldLink "StageMachine$Turning" 79 "StageMachine$Stage" "ropeCount" "I", Cond.fieldLink "StageMachine" 198 "StageMachine$Stage" "ropeCount" "I", Cond.fieldLink "StageMachine$Stage" 43 "StageMachine$Stage" "bound" "I", Cond.fieldLink "StageMachine$Turning" 120 "StageMachine$Stage" "bound" "I", Cond.fieldLink "StageMachine$Stage" 163 "StageMachine$Stage" "shaft" "I", Cond.fieldLink "StageMachine" 204 "StageMachine$Stage" "shaft" "I", Cond.fieldLink "StageMachine$Stage" 166 "StageMachine$Stage" "wear" "I", Cond.fieldLink "StageMachine" 216 "StageMachine$Stage" "wear" "I", Cond.fieldLink "StageMachine$Stage" 210 "StageMachine$Stage" "keptShaft" "I", Cond.fieldLink "StageMachine$Stage" 213 "StageMachine$Stage" "keptWear" "I", Cond.laysFinal "StageMachine$Stage" "StageMachine$Stage" "things" "[LStageMachine$Thing;"]
def ch_1_10 : List Cond := [Cond.soleField "StageMachine$Stage" "things", Cond.laysFinal "StageMachine$Stage" "StageMachine$Stage" "drums" "[LStageMachine$Drum;", Cond.soleField "StageMachine$Stage" "drums", Cond.laysFinal "StageMachine$Stage" "StageMachine$Stage" "ropes" "[LStageMachine$Rope;", Cond.soleField "StageMachine$Stage" "ropes", Cond.laysFinal "StageMachine$Stage" "StageMachine$Stage" "weights" "[I", Cond.soleField "StageMachine$Stage" "weights", Cond.laysFinal "StageMachine$Stage" "StageMachine$Stage" "keptWeights" "[I", Cond.soleField "StageMachine$Stage" "keptWeights", Cond.laysFinal "StageMachine$Stage" "StageMachine$Stage" "catches" "[I", Cond.soleField "StageMachine$Stage" "catches", Cond.laysFinal "StageMachine$Stage" "StageMachine$Stage" "catchCounts" "[I", Cond.soleField "StageMachine$Stage" "catchCounts", Cond.lays "StageMachine$Stage" "StageMachine$Stage" "thingCount" "I", Cond.soleField "StageMachine$Stage" "thingCount", Cond.lays "StageMachine$Stage" "StageMachine$Stage" "drumCount" "I"]
def ch_1_11 : List Cond := [Cond.soleField "StageMachine$Stage" "drumCount", Cond.lays "StageMachine$Stage" "StageMachine$Stage" "ropeCount" "I", Cond.soleField "StageMachine$Stage" "ropeCount", Cond.lays "StageMachine$Stage" "StageMachine$Stage" "bound" "I", Cond.soleField "StageMachine$Stage" "bound", Cond.lays "StageMachine$Stage" "StageMachine$Stage" "shaft" "I", Cond.soleField "StageMachine$Stage" "shaft", Cond.lays "StageMachine$Stage" "StageMachine$Stage" "wear" "I", Cond.soleField "StageMachine$Stage" "wear", Cond.lays "StageMachine$Stage" "StageMachine$Stage" "keptShaft" "I", Cond.soleField "StageMachine$Stage" "keptShaft", Cond.lays "StageMachine$Stage" "StageMachine$Stage" "keptWear" "I", Cond.soleField "StageMachine$Stage" "keptWear", Cond.superclass "StageMachine$Stage" "java/lang/Object", Cond.classLink "StageMachine" 37 "StageMachine$Turning", Cond.instantiable "StageMachine$Turning" 3]
def ch_1_12 : List Cond := [Cond.methodLink "StageMachine" 39 ⟨"StageMachine$Turning", "<init>", "(LStageMachine$Stage;)V"⟩, Cond.instanceMethod ⟨"StageMachine$Turning", "<init>", "(LStageMachine$Stage;)V"⟩, Cond.code ⟨"StageMachine$Turning", "<init>", "(LStageMachine$Stage;)V"⟩ prog_12_method_1_code 2 none, Cond.methodLink "StageMachine$Turning" 3 ⟨"java/lang/Object", "<init>", "()V"⟩, Cond.classLink "StageMachine$Turning" 9 "StageMachine$Stop", Cond.instantiable "StageMachine$Stop" 3, Cond.methodLinkNest "StageMachine$Turning" 11 ⟨"StageMachine$Stop", "<init>", "()V"⟩ "StageMachine", Cond.instanceMethod ⟨"StageMachine$Stop", "<init>", "()V"⟩, Cond.code ⟨"StageMachine$Stop", "<init>", "()V"⟩ prog_9_method_1_code 1 none, Cond.methodLink "StageMachine$Stop" 3 ⟨"java/lang/Object", "<init>", "()V"⟩, Cond.fieldLink "StageMachine$Stop" 18 "StageMachine$Stop" "kind" "I", Cond.fieldLink "StageMachine$Turning" 29 "StageMachine$Stop" "kind" "I", Cond.fieldLink "StageMachine$Stop" 9 "StageMachine$Stop" "thing" "I", Cond.fieldLink "StageMachine$Turning" 33 "StageMachine$Stop" "thing" "I", Cond.fieldLink "StageMachine$Stop" 15 "StageMachine$Stop" "other" "I", Cond.fieldLink "StageMachine$Turning" 36 "StageMachine$Stop" "other" "I"]
def ch_1_13 : List Cond := [Cond.lays "StageMachine$Stop" "StageMachine$Stop" "kind" "I", Cond.soleField "StageMachine$Stop" "kind", Cond.lays "StageMachine$Stop" "StageMachine$Stop" "thing" "I", Cond.soleField "StageMachine$Stop" "thing", Cond.lays "StageMachine$Stop" "StageMachine$Stop" "other" "I", Cond.soleField "StageMachine$Stop" "other", Cond.superclass "StageMachine$Stop" "java/lang/Object", Cond.fieldLink "StageMachine$Turning" 21 "StageMachine$Turning" "stage" "LStageMachine$Stage;", Cond.fieldLink "StageMachine$Turning" 12 "StageMachine$Turning" "latest" "LStageMachine$Stop;", Cond.fieldLink "StageMachine" 113 "StageMachine$Turning" "latest" "LStageMachine$Stop;", Cond.fieldLink "StageMachine$Turning" 18 "StageMachine$Turning" "ahead" "LStageMachine$Stop;", Cond.laysFinal "StageMachine$Turning" "StageMachine$Turning" "stage" "LStageMachine$Stage;", Cond.soleField "StageMachine$Turning" "stage", Cond.laysFinal "StageMachine$Turning" "StageMachine$Turning" "latest" "LStageMachine$Stop;", Cond.soleField "StageMachine$Turning" "latest", Cond.laysFinal "StageMachine$Turning" "StageMachine$Turning" "ahead" "LStageMachine$Stop;"]
def ch_1_14 : List Cond := [Cond.soleField "StageMachine$Turning" "ahead", Cond.superclass "StageMachine$Turning" "java/lang/Object", Cond.classLink "StageMachine" 46 "StageMachine$Change", Cond.instantiable "StageMachine$Change" 9, Cond.methodLink "StageMachine" 48 ⟨"StageMachine$Change", "<init>", "(LStageMachine$Stage;)V"⟩, Cond.instanceMethod ⟨"StageMachine$Change", "<init>", "(LStageMachine$Stage;)V"⟩, Cond.code ⟨"StageMachine$Change", "<init>", "(LStageMachine$Stage;)V"⟩ prog_3_method_1_code 2 none, Cond.methodLink "StageMachine$Change" 3 ⟨"java/lang/Object", "<init>", "()V"⟩, Cond.fieldLink "StageMachine$Change" 21 "StageMachine$Change" "stage" "LStageMachine$Stage;", Cond.fieldLink "StageMachine$Change" 9 "StageMachine$Change" "ropes" "[I", Cond.fieldLink "StageMachine$Change" 15 "StageMachine$Change" "drums" "[I", Cond.fieldLink "StageMachine$Change" 18 "StageMachine$Change" "shares" "[I", Cond.fieldLink "StageMachine$Change" 33 "StageMachine$Change" "asked" "Z", Cond.fieldLink "StageMachine$Change" 37 "StageMachine$Change" "found" "Z", Cond.fieldLink "StageMachine$Change" 112 "StageMachine$Change" "twos" "I", Cond.fieldLink "StageMachine$Change" 115 "StageMachine$Change" "threes" "I"]
set_option maxRecDepth 30000 in
theorem tc_1 : tables_1_1 = ch_1_0 ++ (ch_1_1 ++ (ch_1_2 ++ (ch_1_3 ++ (ch_1_4 ++ (ch_1_5 ++ (ch_1_6 ++ (ch_1_7 ++ (ch_1_8 ++ (ch_1_9 ++ (ch_1_10 ++ (ch_1_11 ++ (ch_1_12 ++ (ch_1_13 ++ (ch_1_14)))))))))))))) := rfl
theorem tm_1 {w : Cond} (h1 : w ∈ tables_1_1) : w ∈ tables_1 := List.mem_append_left _ h1
theorem tb_1_0 {i : Nat} {w : Cond} (h : ch_1_0[i]? = some w) : w ∈ tables_1 := by
  have h1 := List.mem_of_getElem? h
  refine tm_1 ?_
  rw [tc_1]
  exact List.mem_append_left _ h1
theorem tb_1_1 {i : Nat} {w : Cond} (h : ch_1_1[i]? = some w) : w ∈ tables_1 := by
  have h1 := List.mem_of_getElem? h
  refine tm_1 ?_
  rw [tc_1]
  exact List.mem_append_right _ (List.mem_append_left _ h1)
theorem tb_1_2 {i : Nat} {w : Cond} (h : ch_1_2[i]? = some w) : w ∈ tables_1 := by
  have h1 := List.mem_of_getElem? h
  refine tm_1 ?_
  rw [tc_1]
  exact List.mem_append_right _ (List.mem_append_right _ (List.mem_append_left _ h1))
theorem tb_1_3 {i : Nat} {w : Cond} (h : ch_1_3[i]? = some w) : w ∈ tables_1 := by
  have h1 := List.mem_of_getElem? h
  refine tm_1 ?_
  rw [tc_1]
  exact List.mem_append_right _ (List.mem_append_right _ (List.mem_append_right _ (List.mem_append_left _ h1)))
theorem tb_1_4 {i : Nat} {w : Cond} (h : ch_1_4[i]? = some w) : w ∈ tables_1 := by
  have h1 := List.mem_of_getElem? h
  refine tm_1 ?_
  rw [tc_1]
  exact List.mem_append_right _ (List.mem_append_right _ (List.mem_append_right _ (List.mem_append_right _ (List.mem_append_left _ h1))))
theorem tb_1_5 {i : Nat} {w : Cond} (h : ch_1_5[i]? = some w) : w ∈ tables_1 := by
  have h1 := List.mem_of_getElem? h
  refine tm_1 ?_
  rw [tc_1]
  exact List.mem_append_right _ (List.mem_append_right _ (List.mem_append_right _ (List.mem_append_right _ (List.mem_append_right _ (List.mem_append_left _ h1)))))
theorem tb_1_6 {i : Nat} {w : Cond} (h : ch_1_6[i]? = some w) : w ∈ tables_1 := by
  have h1 := List.mem_of_getElem? h
  refine tm_1 ?_
  rw [tc_1]
  exact List.mem_append_right _ (List.mem_append_right _ (List.mem_append_right _ (List.mem_append_right _ (List.mem_append_right _ (List.mem_append_right _ (List.mem_append_left _ h1))))))
theorem tb_1_7 {i : Nat} {w : Cond} (h : ch_1_7[i]? = some w) : w ∈ tables_1 := by
  have h1 := List.mem_of_getElem? h
  refine tm_1 ?_
  rw [tc_1]
  exact List.mem_append_right _ (List.mem_append_right _ (List.mem_append_right _ (List.mem_append_right _ (List.mem_append_right _ (List.mem_append_right _ (List.mem_append_right _ (List.mem_append_left _ h1)))))))
theorem tb_1_8 {i : Nat} {w : Cond} (h : ch_1_8[i]? = some w) : w ∈ tables_1 := by
  have h1 := List.mem_of_getElem? h
  refine tm_1 ?_
  rw [tc_1]
  exact List.mem_append_right _ (List.mem_append_right _ (List.mem_append_right _ (List.mem_append_right _ (List.mem_append_right _ (List.mem_append_right _ (List.mem_append_right _ (List.mem_append_right _ (List.mem_append_left _ h1))))))))
theorem tb_1_9 {i : Nat} {w : Cond} (h : ch_1_9[i]? = some w) : w ∈ tables_1 := by
  have h1 := List.mem_of_getElem? h
  refine tm_1 ?_
  rw [tc_1]
  exact List.mem_append_right _ (List.mem_append_right _ (List.mem_append_right _ (List.mem_append_right _ (List.mem_append_right _ (List.mem_append_right _ (List.mem_append_right _ (List.mem_append_right _ (List.mem_append_right _ (List.mem_append_left _ h1)))))))))
theorem tb_1_10 {i : Nat} {w : Cond} (h : ch_1_10[i]? = some w) : w ∈ tables_1 := by
  have h1 := List.mem_of_getElem? h
  refine tm_1 ?_
  rw [tc_1]
  exact List.mem_append_right _ (List.mem_append_right _ (List.mem_append_right _ (List.mem_append_right _ (List.mem_append_right _ (List.mem_append_right _ (List.mem_append_right _ (List.mem_append_right _ (List.mem_append_right _ (List.mem_append_right _ (List.mem_append_left _ h1))))))))))
theorem tb_1_11 {i : Nat} {w : Cond} (h : ch_1_11[i]? = some w) : w ∈ tables_1 := by
  have h1 := List.mem_of_getElem? h
  refine tm_1 ?_
  rw [tc_1]
  exact List.mem_append_right _ (List.mem_append_right _ (List.mem_append_right _ (List.mem_append_right _ (List.mem_append_right _ (List.mem_append_right _ (List.mem_append_right _ (List.mem_append_right _ (List.mem_append_right _ (List.mem_append_right _ (List.mem_append_right _ (List.mem_append_left _ h1)))))))))))
theorem tb_1_12 {i : Nat} {w : Cond} (h : ch_1_12[i]? = some w) : w ∈ tables_1 := by
  have h1 := List.mem_of_getElem? h
  refine tm_1 ?_
  rw [tc_1]
  exact List.mem_append_right _ (List.mem_append_right _ (List.mem_append_right _ (List.mem_append_right _ (List.mem_append_right _ (List.mem_append_right _ (List.mem_append_right _ (List.mem_append_right _ (List.mem_append_right _ (List.mem_append_right _ (List.mem_append_right _ (List.mem_append_right _ (List.mem_append_left _ h1))))))))))))
theorem tb_1_13 {i : Nat} {w : Cond} (h : ch_1_13[i]? = some w) : w ∈ tables_1 := by
  have h1 := List.mem_of_getElem? h
  refine tm_1 ?_
  rw [tc_1]
  exact List.mem_append_right _ (List.mem_append_right _ (List.mem_append_right _ (List.mem_append_right _ (List.mem_append_right _ (List.mem_append_right _ (List.mem_append_right _ (List.mem_append_right _ (List.mem_append_right _ (List.mem_append_right _ (List.mem_append_right _ (List.mem_append_right _ (List.mem_append_right _ (List.mem_append_left _ h1)))))))))))))
theorem tb_1_14 {i : Nat} {w : Cond} (h : ch_1_14[i]? = some w) : w ∈ tables_1 := by
  have h1 := List.mem_of_getElem? h
  refine tm_1 ?_
  rw [tc_1]
  exact List.mem_append_right _ (List.mem_append_right _ (List.mem_append_right _ (List.mem_append_right _ (List.mem_append_right _ (List.mem_append_right _ (List.mem_append_right _ (List.mem_append_right _ (List.mem_append_right _ (List.mem_append_right _ (List.mem_append_right _ (List.mem_append_right _ (List.mem_append_right _ (List.mem_append_right _ (h1))))))))))))))
def ch_2_0 : List Cond := [Cond.fieldLink "StageMachine$Change" 118 "StageMachine$Change" "fives" "I", Cond.laysFinal "StageMachine$Change" "StageMachine$Change" "stage" "LStageMachine$Stage;", Cond.soleField "StageMachine$Change" "stage", Cond.laysFinal "StageMachine$Change" "StageMachine$Change" "ropes" "[I", Cond.soleField "StageMachine$Change" "ropes", Cond.laysFinal "StageMachine$Change" "StageMachine$Change" "drums" "[I", Cond.soleField "StageMachine$Change" "drums", Cond.laysFinal "StageMachine$Change" "StageMachine$Change" "shares" "[I", Cond.soleField "StageMachine$Change" "shares", Cond.lays "StageMachine$Change" "StageMachine$Change" "asked" "Z", Cond.soleField "StageMachine$Change" "asked", Cond.lays "StageMachine$Change" "StageMachine$Change" "found" "Z", Cond.soleField "StageMachine$Change" "found", Cond.lays "StageMachine$Change" "StageMachine$Change" "twos" "I", Cond.soleField "StageMachine$Change" "twos", Cond.lays "StageMachine$Change" "StageMachine$Change" "threes" "I"]
def ch_2_1 : List Cond := [Cond.soleField "StageMachine$Change" "threes", Cond.lays "StageMachine$Change" "StageMachine$Change" "fives" "I", Cond.soleField "StageMachine$Change" "fives", Cond.superclass "StageMachine$Change" "java/lang/Object", Cond.fieldLink "StageMachine" 33 "StageMachine" "stage" "LStageMachine$Stage;", Cond.fieldLink "StageMachine" 42 "StageMachine" "turning" "LStageMachine$Turning;", Cond.fieldLink "StageMachine" 49 "StageMachine" "latestChange" "LStageMachine$Change;", Cond.fieldLink "StageMachine" 10 "StageMachine" "tape" "LStageMachine$Tape;", Cond.fieldLink "StageMachine" 19 "StageMachine" "candles" "LStageMachine$Candles;", Cond.fieldLink "StageMachine" 26 "StageMachine" "stock" "LStageMachine$Stock;", Cond.fieldLink "StageMachine" 157 "StageMachine" "cueCanGoBack" "Z", Cond.laysFinal "StageMachine" "StageMachine" "stage" "LStageMachine$Stage;", Cond.soleField "StageMachine" "stage", Cond.laysFinal "StageMachine" "StageMachine" "turning" "LStageMachine$Turning;", Cond.soleField "StageMachine" "turning", Cond.laysFinal "StageMachine" "StageMachine" "latestChange" "LStageMachine$Change;"]
def ch_2_2 : List Cond := [Cond.soleField "StageMachine" "latestChange", Cond.laysFinal "StageMachine" "StageMachine" "tape" "LStageMachine$Tape;", Cond.soleField "StageMachine" "tape", Cond.laysFinal "StageMachine" "StageMachine" "candles" "LStageMachine$Candles;", Cond.soleField "StageMachine" "candles", Cond.laysFinal "StageMachine" "StageMachine" "stock" "LStageMachine$Stock;", Cond.soleField "StageMachine" "stock", Cond.lays "StageMachine" "StageMachine" "cueCanGoBack" "Z", Cond.soleField "StageMachine" "cueCanGoBack", Cond.superclass "StageMachine" "java/lang/Object", Cond.methodLink "StageMachineLaw" 13 ⟨"StageMachine", "thing", "(IIII)I"⟩, Cond.instanceMethod ⟨"StageMachine", "thing", "(IIII)I"⟩, Cond.selects "StageMachine" ⟨"StageMachine", "thing", "(IIII)I"⟩ ⟨"StageMachine", "thing", "(IIII)I"⟩, Cond.code ⟨"StageMachine", "thing", "(IIII)I"⟩ prog_1_method_2_code 6 (some .int), Cond.methodLink "StageMachine" 53 ⟨"StageMachine$Stage", "addThing", "(IIII)I"⟩, Cond.instanceMethod ⟨"StageMachine$Stage", "addThing", "(IIII)I"⟩]
def ch_2_3 : List Cond := [Cond.selects "StageMachine$Stage" ⟨"StageMachine$Stage", "addThing", "(IIII)I"⟩ ⟨"StageMachine$Stage", "addThing", "(IIII)I"⟩, Cond.code ⟨"StageMachine$Stage", "addThing", "(IIII)I"⟩ prog_7_method_5_code 11 (some .int), Cond.methodLinkNest "StageMachine$Stage" 50 ⟨"StageMachine", "isWithin", "(III)Z"⟩ "StageMachine", Cond.static ⟨"StageMachine", "isWithin", "(III)Z"⟩, Cond.code ⟨"StageMachine", "isWithin", "(III)Z"⟩ prog_1_method_38_code 3 (some .boolean), Cond.methodLink "StageMachine$Stage" 60 ⟨"StageMachine$Stage", "isStagePlace", "(I)Z"⟩, Cond.static ⟨"StageMachine$Stage", "isStagePlace", "(I)Z"⟩, Cond.code ⟨"StageMachine$Stage", "isStagePlace", "(I)Z"⟩ prog_7_method_24_code 1 (some .boolean), Cond.methodLink "StageMachine$Stage" 64 ⟨"StageMachine$Stage", "isClear", "(LStageMachine$Thing;III)Z"⟩, Cond.instanceMethod ⟨"StageMachine$Stage", "isClear", "(LStageMachine$Thing;III)Z"⟩, Cond.selects "StageMachine$Stage" ⟨"StageMachine$Stage", "isClear", "(LStageMachine$Thing;III)Z"⟩ ⟨"StageMachine$Stage", "isClear", "(LStageMachine$Thing;III)Z"⟩, Cond.code ⟨"StageMachine$Stage", "isClear", "(LStageMachine$Thing;III)Z"⟩ prog_7_method_9_code 8 (some .boolean), Cond.methodLinkNest "StageMachine$Stage" 93 ⟨"StageMachine", "overlap", "(IIII)Z"⟩ "StageMachine", Cond.static ⟨"StageMachine", "overlap", "(IIII)Z"⟩, Cond.code ⟨"StageMachine", "overlap", "(IIII)Z"⟩ prog_1_method_41_code 4 (some .boolean), Cond.instantiable "StageMachine$Thing" 12]
def ch_2_4 : List Cond := [Cond.methodLink "StageMachine$Stage" 68 ⟨"StageMachine$Thing", "<init>", "(IIIIIII)V"⟩, Cond.instanceMethod ⟨"StageMachine$Thing", "<init>", "(IIIIIII)V"⟩, Cond.code ⟨"StageMachine$Thing", "<init>", "(IIIIIII)V"⟩ prog_11_method_1_code 8 none, Cond.methodLink "StageMachine$Thing" 3 ⟨"java/lang/Object", "<init>", "()V"⟩, Cond.methodLink "StageMachine$Thing" 37 ⟨"java/util/Arrays", "fill", "([II)V"⟩, Cond.static ⟨"java/util/Arrays", "fill", "([II)V"⟩, Cond.code ⟨"java/util/Arrays", "fill", "([II)V"⟩ prog_18_method_103_code 4 none, Cond.fieldLink "StageMachine$Thing" 15 "StageMachine$Thing" "number" "I", Cond.fieldLink "StageMachine$Rope" 28 "StageMachine$Thing" "number" "I", Cond.fieldLink "StageMachine$Change" 94 "StageMachine$Thing" "number" "I", Cond.fieldLink "StageMachine$Thing" 19 "StageMachine$Thing" "lane" "I", Cond.fieldLink "StageMachine$Stage" 81 "StageMachine$Thing" "lane" "I", Cond.fieldLink "StageMachine$Thing" 25 "StageMachine$Thing" "width" "I", Cond.fieldLink "StageMachine$Stage" 90 "StageMachine$Thing" "width" "I", Cond.fieldLink "StageMachine$Thing" 34 "StageMachine$Thing" "weight" "I", Cond.fieldLink "StageMachine$Rope" 50 "StageMachine$Thing" "weight" "I"]
def ch_2_5 : List Cond := [Cond.fieldLink "StageMachine$Thing" 28 "StageMachine$Thing" "least" "I", Cond.fieldLink "StageMachine$Turning" 106 "StageMachine$Thing" "least" "I", Cond.fieldLink "StageMachine$Thing" 31 "StageMachine$Thing" "most" "I", Cond.fieldLink "StageMachine$Turning" 109 "StageMachine$Thing" "most" "I", Cond.fieldLink "StageMachine$Thing" 9 "StageMachine$Thing" "sceneAt" "[I", Cond.fieldLink "StageMachine$Change" 56 "StageMachine$Thing" "sceneAt" "[I", Cond.fieldLink "StageMachine$Thing" 22 "StageMachine$Thing" "at" "I", Cond.fieldLink "StageMachine$Change" 61 "StageMachine$Thing" "at" "I", Cond.fieldLink "StageMachine$Rope" 73 "StageMachine$Thing" "at" "I", Cond.fieldLink "StageMachine$Stage" 87 "StageMachine$Thing" "at" "I", Cond.fieldLink "StageMachine$Thing" 57 "StageMachine$Thing" "trialAt" "I", Cond.fieldLink "StageMachine$Turning" 101 "StageMachine$Thing" "trialAt" "I", Cond.fieldLink "StageMachine$Stage" 154 "StageMachine$Thing" "trialAt" "I", Cond.fieldLink "StageMachine$Thing" 43 "StageMachine$Thing" "tied" "LStageMachine$Rope;", Cond.fieldLink "StageMachine$Change" 121 "StageMachine$Thing" "tied" "LStageMachine$Rope;", Cond.fieldLink "StageMachine$Rope" 76 "StageMachine$Thing" "tied" "LStageMachine$Rope;"]
def ch_2_6 : List Cond := [Cond.fieldLink "StageMachine$Stage" 113 "StageMachine$Thing" "tied" "LStageMachine$Rope;", Cond.fieldLink "StageMachine$Stage" 189 "StageMachine$Thing" "keptAt" "I", Cond.fieldLink "StageMachine$Stage" 192 "StageMachine$Thing" "keptTied" "LStageMachine$Rope;", Cond.laysFinal "StageMachine$Thing" "StageMachine$Thing" "number" "I", Cond.soleField "StageMachine$Thing" "number", Cond.laysFinal "StageMachine$Thing" "StageMachine$Thing" "lane" "I", Cond.soleField "StageMachine$Thing" "lane", Cond.laysFinal "StageMachine$Thing" "StageMachine$Thing" "width" "I", Cond.soleField "StageMachine$Thing" "width", Cond.laysFinal "StageMachine$Thing" "StageMachine$Thing" "weight" "I", Cond.soleField "StageMachine$Thing" "weight", Cond.laysFinal "StageMachine$Thing" "StageMachine$Thing" "least" "I", Cond.soleField "StageMachine$Thing" "least", Cond.laysFinal "StageMachine$Thing" "StageMachine$Thing" "most" "I", Cond.soleField "StageMachine$Thing" "most", Cond.laysFinal "StageMachine$Thing" "StageMachine$Thing" "sceneAt" "[I"]
def ch_2_7 : List Cond := [Cond.soleField "StageMachine$Thing" "sceneAt", Cond.lays "StageMachine$Thing" "StageMachine$Thing" "at" "I", Cond.soleField "StageMachine$Thing" "at", Cond.lays "StageMachine$Thing" "StageMachine$Thing" "trialAt" "I", Cond.soleField "StageMachine$Thing" "trialAt", Cond.lays "StageMachine$Thing" "StageMachine$Thing" "tied" "LStageMachine$Rope;", Cond.soleField "StageMachine$Thing" "tied", Cond.lays "StageMachine$Thing" "StageMachine$Thing" "keptAt" "I", Cond.soleField "StageMachine$Thing" "keptAt", Cond.lays "StageMachine$Thing" "StageMachine$Thing" "keptTied" "LStageMachine$Rope;", Cond.soleField "StageMachine$Thing" "keptTied", Cond.superclass "StageMachine$Thing" "java/lang/Object", Cond.methodLink "StageMachine" 57 ⟨"StageMachine", "deed", "(IZ)I"⟩, Cond.privateMethod ⟨"StageMachine", "deed", "(IZ)I"⟩, Cond.instanceMethod ⟨"StageMachine", "deed", "(IZ)I"⟩, Cond.code ⟨"StageMachine", "deed", "(IZ)I"⟩ prog_1_method_35_code 3 (some .int)]
def ch_2_8 : List Cond := [Cond.methodLink "StageMachineLaw" 18 ⟨"StageMachine", "ofThing", "(II)I"⟩, Cond.instanceMethod ⟨"StageMachine", "ofThing", "(II)I"⟩, Cond.selects "StageMachine" ⟨"StageMachine", "ofThing", "(II)I"⟩ ⟨"StageMachine", "ofThing", "(II)I"⟩, Cond.code ⟨"StageMachine", "ofThing", "(II)I"⟩ prog_1_method_3_code 4 (some .int), Cond.methodLink "StageMachine" 61 ⟨"StageMachine$Stage", "thingNumbered", "(I)LStageMachine$Thing;"⟩, Cond.instanceMethod ⟨"StageMachine$Stage", "thingNumbered", "(I)LStageMachine$Thing;"⟩, Cond.selects "StageMachine$Stage" ⟨"StageMachine$Stage", "thingNumbered", "(I)LStageMachine$Thing;"⟩ ⟨"StageMachine$Stage", "thingNumbered", "(I)LStageMachine$Thing;"⟩, Cond.code ⟨"StageMachine$Stage", "thingNumbered", "(I)LStageMachine$Thing;"⟩ prog_7_method_2_code 2 (Option.some (FieldType.object "StageMachine$Thing")), Cond.methodLink "StageMachine" 65 ⟨"StageMachine$Thing", "tell", "(I)I"⟩, Cond.instanceMethod ⟨"StageMachine$Thing", "tell", "(I)I"⟩, Cond.selects "StageMachine$Thing" ⟨"StageMachine$Thing", "tell", "(I)I"⟩ ⟨"StageMachine$Thing", "tell", "(I)I"⟩, Cond.code ⟨"StageMachine$Thing", "tell", "(I)I"⟩ prog_11_method_2_code 2 (some .int), Cond.methodLink "StageMachineLaw" 23 ⟨"StageMachine", "on", "(I)I"⟩, Cond.instanceMethod ⟨"StageMachine", "on", "(I)I"⟩, Cond.selects "StageMachine" ⟨"StageMachine", "on", "(I)I"⟩ ⟨"StageMachine", "on", "(I)I"⟩, Cond.code ⟨"StageMachine", "on", "(I)I"⟩ prog_1_method_4_code 2 (some .int)]
def ch_2_9 : List Cond := [Cond.methodLink "StageMachine" 71 ⟨"StageMachine$Stage", "standingOn", "(I)I"⟩, Cond.instanceMethod ⟨"StageMachine$Stage", "standingOn", "(I)I"⟩, Cond.selects "StageMachine$Stage" ⟨"StageMachine$Stage", "standingOn", "(I)I"⟩ ⟨"StageMachine$Stage", "standingOn", "(I)I"⟩, Cond.code ⟨"StageMachine$Stage", "standingOn", "(I)I"⟩ prog_7_method_8_code 4 (some .int), Cond.methodLink "StageMachine$Stage" 84 ⟨"StageMachine$Thing", "covers", "(I)Z"⟩, Cond.instanceMethod ⟨"StageMachine$Thing", "covers", "(I)Z"⟩, Cond.selects "StageMachine$Thing" ⟨"StageMachine$Thing", "covers", "(I)Z"⟩ ⟨"StageMachine$Thing", "covers", "(I)Z"⟩, Cond.code ⟨"StageMachine$Thing", "covers", "(I)Z"⟩ prog_11_method_4_code 2 (some .boolean), Cond.methodLink "StageMachineLaw" 28 ⟨"StageMachine", "drum", "(I)I"⟩, Cond.instanceMethod ⟨"StageMachine", "drum", "(I)I"⟩, Cond.selects "StageMachine" ⟨"StageMachine", "drum", "(I)I"⟩ ⟨"StageMachine", "drum", "(I)I"⟩, Cond.code ⟨"StageMachine", "drum", "(I)I"⟩ prog_1_method_5_code 3 (some .int), Cond.methodLink "StageMachine" 74 ⟨"StageMachine$Stage", "addDrum", "(I)I"⟩, Cond.instanceMethod ⟨"StageMachine$Stage", "addDrum", "(I)I"⟩, Cond.selects "StageMachine$Stage" ⟨"StageMachine$Stage", "addDrum", "(I)I"⟩ ⟨"StageMachine$Stage", "addDrum", "(I)I"⟩, Cond.code ⟨"StageMachine$Stage", "addDrum", "(I)I"⟩ prog_7_method_6_code 2 (some .int)]
def ch_2_10 : List Cond := [Cond.instantiable "StageMachine$Drum" 2, Cond.methodLink "StageMachine$Stage" 71 ⟨"StageMachine$Drum", "<init>", "(II)V"⟩, Cond.instanceMethod ⟨"StageMachine$Drum", "<init>", "(II)V"⟩, Cond.code ⟨"StageMachine$Drum", "<init>", "(II)V"⟩ prog_4_method_1_code 3 none, Cond.methodLink "StageMachine$Drum" 1 ⟨"java/lang/Object", "<init>", "()V"⟩, Cond.fieldLink "StageMachine$Drum" 7 "StageMachine$Drum" "number" "I", Cond.fieldLink "StageMachine$Rope" 39 "StageMachine$Drum" "number" "I", Cond.fieldLink "StageMachine$Change" 137 "StageMachine$Drum" "number" "I", Cond.fieldLink "StageMachine$Drum" 13 "StageMachine$Drum" "size" "I", Cond.fieldLink "StageMachine$Change" 103 "StageMachine$Drum" "size" "I", Cond.fieldLink "StageMachine$Rope" 60 "StageMachine$Drum" "size" "I", Cond.laysFinal "StageMachine$Drum" "StageMachine$Drum" "number" "I", Cond.soleField "StageMachine$Drum" "number", Cond.laysFinal "StageMachine$Drum" "StageMachine$Drum" "size" "I", Cond.soleField "StageMachine$Drum" "size", Cond.superclass "StageMachine$Drum" "java/lang/Object"]
def ch_2_11 : List Cond := [Cond.methodLink "StageMachineLaw" 32 ⟨"StageMachine", "rope", "(III)I"⟩, Cond.instanceMethod ⟨"StageMachine", "rope", "(III)I"⟩, Cond.selects "StageMachine" ⟨"StageMachine", "rope", "(III)I"⟩ ⟨"StageMachine", "rope", "(III)I"⟩, Cond.code ⟨"StageMachine", "rope", "(III)I"⟩ prog_1_method_6_code 5 (some .int), Cond.methodLink "StageMachine" 77 ⟨"StageMachine$Stage", "addRope", "(III)I"⟩, Cond.instanceMethod ⟨"StageMachine$Stage", "addRope", "(III)I"⟩, Cond.selects "StageMachine$Stage" ⟨"StageMachine$Stage", "addRope", "(III)I"⟩ ⟨"StageMachine$Stage", "addRope", "(III)I"⟩, Cond.code ⟨"StageMachine$Stage", "addRope", "(III)I"⟩ prog_7_method_7_code 8 (some .int), Cond.methodLink "StageMachine$Stage" 74 ⟨"StageMachine$Stage", "thingNumbered", "(I)LStageMachine$Thing;"⟩, Cond.instantiable "StageMachine$Rope" 12, Cond.methodLink "StageMachine$Stage" 78 ⟨"StageMachine$Rope", "<init>", "(ILStageMachine$Thing;III)V"⟩, Cond.instanceMethod ⟨"StageMachine$Rope", "<init>", "(ILStageMachine$Thing;III)V"⟩, Cond.code ⟨"StageMachine$Rope", "<init>", "(ILStageMachine$Thing;III)V"⟩ prog_6_method_1_code 6 none, Cond.methodLink "StageMachine$Rope" 3 ⟨"java/lang/Object", "<init>", "()V"⟩, Cond.fieldLink "StageMachine$Rope" 9 "StageMachine$Rope" "number" "I", Cond.fieldLink "StageMachine$Thing" 47 "StageMachine$Rope" "number" "I"]
def ch_2_12 : List Cond := [Cond.fieldLink "StageMachine$Change" 129 "StageMachine$Rope" "number" "I", Cond.fieldLink "StageMachine$Rope" 15 "StageMachine$Rope" "thing" "LStageMachine$Thing;", Cond.fieldLink "StageMachine$Change" 77 "StageMachine$Rope" "thing" "LStageMachine$Thing;", Cond.fieldLink "StageMachine$Stage" 109 "StageMachine$Rope" "thing" "LStageMachine$Thing;", Cond.fieldLink "StageMachine$Rope" 19 "StageMachine$Rope" "way" "I", Cond.fieldLink "StageMachine$Stage" 174 "StageMachine$Rope" "way" "I", Cond.fieldLink "StageMachine$Rope" 22 "StageMachine$Rope" "gear" "I", Cond.fieldLink "StageMachine$Rope" 25 "StageMachine$Rope" "holds" "I", Cond.fieldLink "StageMachine$Rope" 35 "StageMachine$Rope" "drum" "LStageMachine$Drum;", Cond.fieldLink "StageMachine$Change" 133 "StageMachine$Rope" "drum" "LStageMachine$Drum;", Cond.fieldLink "StageMachine$Stage" 125 "StageMachine$Rope" "drum" "LStageMachine$Drum;", Cond.fieldLink "StageMachine$Thing" 50 "StageMachine$Rope" "start" "I", Cond.fieldLink "StageMachine$Rope" 63 "StageMachine$Rope" "start" "I", Cond.fieldLink "StageMachine$Stage" 143 "StageMachine$Rope" "start" "I", Cond.fieldLink "StageMachine$Rope" 42 "StageMachine$Rope" "done" "I", Cond.fieldLink "StageMachine$Change" 130 "StageMachine$Rope" "done" "I"]
def ch_2_13 : List Cond := [Cond.fieldLink "StageMachine$Stage" 130 "StageMachine$Rope" "done" "I", Cond.fieldLink "StageMachine$Rope" 45 "StageMachine$Rope" "gone" "Z", Cond.fieldLink "StageMachine$Change" 83 "StageMachine$Rope" "gone" "Z", Cond.fieldLink "StageMachine$Stage" 105 "StageMachine$Rope" "gone" "Z", Cond.fieldLink "StageMachine$Stage" 195 "StageMachine$Rope" "keptDrum" "LStageMachine$Drum;", Cond.fieldLink "StageMachine$Stage" 198 "StageMachine$Rope" "keptStart" "I", Cond.fieldLink "StageMachine$Stage" 201 "StageMachine$Rope" "keptDone" "I", Cond.laysFinal "StageMachine$Rope" "StageMachine$Rope" "number" "I", Cond.soleField "StageMachine$Rope" "number", Cond.laysFinal "StageMachine$Rope" "StageMachine$Rope" "thing" "LStageMachine$Thing;", Cond.soleField "StageMachine$Rope" "thing", Cond.laysFinal "StageMachine$Rope" "StageMachine$Rope" "way" "I", Cond.soleField "StageMachine$Rope" "way", Cond.laysFinal "StageMachine$Rope" "StageMachine$Rope" "gear" "I", Cond.soleField "StageMachine$Rope" "gear", Cond.laysFinal "StageMachine$Rope" "StageMachine$Rope" "holds" "I"]
def ch_2_14 : List Cond := [Cond.soleField "StageMachine$Rope" "holds", Cond.lays "StageMachine$Rope" "StageMachine$Rope" "drum" "LStageMachine$Drum;", Cond.soleField "StageMachine$Rope" "drum", Cond.lays "StageMachine$Rope" "StageMachine$Rope" "start" "I", Cond.soleField "StageMachine$Rope" "start", Cond.lays "StageMachine$Rope" "StageMachine$Rope" "done" "I", Cond.soleField "StageMachine$Rope" "done", Cond.lays "StageMachine$Rope" "StageMachine$Rope" "gone" "Z", Cond.soleField "StageMachine$Rope" "gone", Cond.lays "StageMachine$Rope" "StageMachine$Rope" "keptDrum" "LStageMachine$Drum;", Cond.soleField "StageMachine$Rope" "keptDrum", Cond.lays "StageMachine$Rope" "StageMachine$Rope" "keptStart" "I", Cond.soleField "StageMachine$Rope" "keptStart", Cond.lays "StageMachine$Rope" "StageMachine$Rope" "keptDone" "I", Cond.soleField "StageMachine$Rope" "keptDone", Cond.superclass "StageMachine$Rope" "java/lang/Object"]
set_option maxRecDepth 30000 in
theorem tc_2 : tables_1_2 = ch_2_0 ++ (ch_2_1 ++ (ch_2_2 ++ (ch_2_3 ++ (ch_2_4 ++ (ch_2_5 ++ (ch_2_6 ++ (ch_2_7 ++ (ch_2_8 ++ (ch_2_9 ++ (ch_2_10 ++ (ch_2_11 ++ (ch_2_12 ++ (ch_2_13 ++ (ch_2_14)))))))))))))) := rfl
theorem tm_2 {w : Cond} (h1 : w ∈ tables_1_2) : w ∈ tables_1 := List.mem_append_right _ (List.mem_append_left _ h1)
theorem tb_2_0 {i : Nat} {w : Cond} (h : ch_2_0[i]? = some w) : w ∈ tables_1 := by
  have h1 := List.mem_of_getElem? h
  refine tm_2 ?_
  rw [tc_2]
  exact List.mem_append_left _ h1
theorem tb_2_1 {i : Nat} {w : Cond} (h : ch_2_1[i]? = some w) : w ∈ tables_1 := by
  have h1 := List.mem_of_getElem? h
  refine tm_2 ?_
  rw [tc_2]
  exact List.mem_append_right _ (List.mem_append_left _ h1)
theorem tb_2_2 {i : Nat} {w : Cond} (h : ch_2_2[i]? = some w) : w ∈ tables_1 := by
  have h1 := List.mem_of_getElem? h
  refine tm_2 ?_
  rw [tc_2]
  exact List.mem_append_right _ (List.mem_append_right _ (List.mem_append_left _ h1))
theorem tb_2_3 {i : Nat} {w : Cond} (h : ch_2_3[i]? = some w) : w ∈ tables_1 := by
  have h1 := List.mem_of_getElem? h
  refine tm_2 ?_
  rw [tc_2]
  exact List.mem_append_right _ (List.mem_append_right _ (List.mem_append_right _ (List.mem_append_left _ h1)))
theorem tb_2_4 {i : Nat} {w : Cond} (h : ch_2_4[i]? = some w) : w ∈ tables_1 := by
  have h1 := List.mem_of_getElem? h
  refine tm_2 ?_
  rw [tc_2]
  exact List.mem_append_right _ (List.mem_append_right _ (List.mem_append_right _ (List.mem_append_right _ (List.mem_append_left _ h1))))
theorem tb_2_5 {i : Nat} {w : Cond} (h : ch_2_5[i]? = some w) : w ∈ tables_1 := by
  have h1 := List.mem_of_getElem? h
  refine tm_2 ?_
  rw [tc_2]
  exact List.mem_append_right _ (List.mem_append_right _ (List.mem_append_right _ (List.mem_append_right _ (List.mem_append_right _ (List.mem_append_left _ h1)))))
theorem tb_2_6 {i : Nat} {w : Cond} (h : ch_2_6[i]? = some w) : w ∈ tables_1 := by
  have h1 := List.mem_of_getElem? h
  refine tm_2 ?_
  rw [tc_2]
  exact List.mem_append_right _ (List.mem_append_right _ (List.mem_append_right _ (List.mem_append_right _ (List.mem_append_right _ (List.mem_append_right _ (List.mem_append_left _ h1))))))
theorem tb_2_7 {i : Nat} {w : Cond} (h : ch_2_7[i]? = some w) : w ∈ tables_1 := by
  have h1 := List.mem_of_getElem? h
  refine tm_2 ?_
  rw [tc_2]
  exact List.mem_append_right _ (List.mem_append_right _ (List.mem_append_right _ (List.mem_append_right _ (List.mem_append_right _ (List.mem_append_right _ (List.mem_append_right _ (List.mem_append_left _ h1)))))))
theorem tb_2_8 {i : Nat} {w : Cond} (h : ch_2_8[i]? = some w) : w ∈ tables_1 := by
  have h1 := List.mem_of_getElem? h
  refine tm_2 ?_
  rw [tc_2]
  exact List.mem_append_right _ (List.mem_append_right _ (List.mem_append_right _ (List.mem_append_right _ (List.mem_append_right _ (List.mem_append_right _ (List.mem_append_right _ (List.mem_append_right _ (List.mem_append_left _ h1))))))))
theorem tb_2_9 {i : Nat} {w : Cond} (h : ch_2_9[i]? = some w) : w ∈ tables_1 := by
  have h1 := List.mem_of_getElem? h
  refine tm_2 ?_
  rw [tc_2]
  exact List.mem_append_right _ (List.mem_append_right _ (List.mem_append_right _ (List.mem_append_right _ (List.mem_append_right _ (List.mem_append_right _ (List.mem_append_right _ (List.mem_append_right _ (List.mem_append_right _ (List.mem_append_left _ h1)))))))))
theorem tb_2_10 {i : Nat} {w : Cond} (h : ch_2_10[i]? = some w) : w ∈ tables_1 := by
  have h1 := List.mem_of_getElem? h
  refine tm_2 ?_
  rw [tc_2]
  exact List.mem_append_right _ (List.mem_append_right _ (List.mem_append_right _ (List.mem_append_right _ (List.mem_append_right _ (List.mem_append_right _ (List.mem_append_right _ (List.mem_append_right _ (List.mem_append_right _ (List.mem_append_right _ (List.mem_append_left _ h1))))))))))
theorem tb_2_11 {i : Nat} {w : Cond} (h : ch_2_11[i]? = some w) : w ∈ tables_1 := by
  have h1 := List.mem_of_getElem? h
  refine tm_2 ?_
  rw [tc_2]
  exact List.mem_append_right _ (List.mem_append_right _ (List.mem_append_right _ (List.mem_append_right _ (List.mem_append_right _ (List.mem_append_right _ (List.mem_append_right _ (List.mem_append_right _ (List.mem_append_right _ (List.mem_append_right _ (List.mem_append_right _ (List.mem_append_left _ h1)))))))))))
theorem tb_2_12 {i : Nat} {w : Cond} (h : ch_2_12[i]? = some w) : w ∈ tables_1 := by
  have h1 := List.mem_of_getElem? h
  refine tm_2 ?_
  rw [tc_2]
  exact List.mem_append_right _ (List.mem_append_right _ (List.mem_append_right _ (List.mem_append_right _ (List.mem_append_right _ (List.mem_append_right _ (List.mem_append_right _ (List.mem_append_right _ (List.mem_append_right _ (List.mem_append_right _ (List.mem_append_right _ (List.mem_append_right _ (List.mem_append_left _ h1))))))))))))
theorem tb_2_13 {i : Nat} {w : Cond} (h : ch_2_13[i]? = some w) : w ∈ tables_1 := by
  have h1 := List.mem_of_getElem? h
  refine tm_2 ?_
  rw [tc_2]
  exact List.mem_append_right _ (List.mem_append_right _ (List.mem_append_right _ (List.mem_append_right _ (List.mem_append_right _ (List.mem_append_right _ (List.mem_append_right _ (List.mem_append_right _ (List.mem_append_right _ (List.mem_append_right _ (List.mem_append_right _ (List.mem_append_right _ (List.mem_append_right _ (List.mem_append_left _ h1)))))))))))))
theorem tb_2_14 {i : Nat} {w : Cond} (h : ch_2_14[i]? = some w) : w ∈ tables_1 := by
  have h1 := List.mem_of_getElem? h
  refine tm_2 ?_
  rw [tc_2]
  exact List.mem_append_right _ (List.mem_append_right _ (List.mem_append_right _ (List.mem_append_right _ (List.mem_append_right _ (List.mem_append_right _ (List.mem_append_right _ (List.mem_append_right _ (List.mem_append_right _ (List.mem_append_right _ (List.mem_append_right _ (List.mem_append_right _ (List.mem_append_right _ (List.mem_append_right _ (h1))))))))))))))
def ch_3_0 : List Cond := [Cond.methodLink "StageMachineLaw" 37 ⟨"StageMachine", "ofRope", "(II)I"⟩, Cond.instanceMethod ⟨"StageMachine", "ofRope", "(II)I"⟩, Cond.selects "StageMachine" ⟨"StageMachine", "ofRope", "(II)I"⟩ ⟨"StageMachine", "ofRope", "(II)I"⟩, Cond.code ⟨"StageMachine", "ofRope", "(II)I"⟩ prog_1_method_7_code 4 (some .int), Cond.methodLink "StageMachine" 81 ⟨"StageMachine$Stage", "ropeNumbered", "(I)LStageMachine$Rope;"⟩, Cond.instanceMethod ⟨"StageMachine$Stage", "ropeNumbered", "(I)LStageMachine$Rope;"⟩, Cond.selects "StageMachine$Stage" ⟨"StageMachine$Stage", "ropeNumbered", "(I)LStageMachine$Rope;"⟩ ⟨"StageMachine$Stage", "ropeNumbered", "(I)LStageMachine$Rope;"⟩, Cond.code ⟨"StageMachine$Stage", "ropeNumbered", "(I)LStageMachine$Rope;"⟩ prog_7_method_4_code 2 (Option.some (FieldType.object "StageMachine$Rope")), Cond.constant "StageMachine" 85 (-2000000000), Cond.methodLink "StageMachine" 86 ⟨"StageMachine$Rope", "tell", "(I)I"⟩, Cond.instanceMethod ⟨"StageMachine$Rope", "tell", "(I)I"⟩, Cond.selects "StageMachine$Rope" ⟨"StageMachine$Rope", "tell", "(I)I"⟩ ⟨"StageMachine$Rope", "tell", "(I)I"⟩, Cond.code ⟨"StageMachine$Rope", "tell", "(I)I"⟩ prog_6_method_2_code 2 (some .int), Cond.methodLink "StageMachine$Rope" 31 ⟨"StageMachine$Rope", "load", "()I"⟩, Cond.instanceMethod ⟨"StageMachine$Rope", "load", "()I"⟩, Cond.selects "StageMachine$Rope" ⟨"StageMachine$Rope", "load", "()I"⟩ ⟨"StageMachine$Rope", "load", "()I"⟩]
def ch_3_1 : List Cond := [Cond.code ⟨"StageMachine$Rope", "load", "()I"⟩ prog_6_method_3_code 1 (some .int), Cond.methodLinkNest "StageMachine$Rope" 53 ⟨"StageMachine", "quotientUp", "(II)I"⟩ "StageMachine", Cond.static ⟨"StageMachine", "quotientUp", "(II)I"⟩, Cond.code ⟨"StageMachine", "quotientUp", "(II)I"⟩ prog_1_method_40_code 2 (some .int), Cond.constant "StageMachine$Rope" 49 (-2000000000), Cond.methodLink "StageMachineLaw" 41 ⟨"StageMachine", "tie", "(II)I"⟩, Cond.instanceMethod ⟨"StageMachine", "tie", "(II)I"⟩, Cond.selects "StageMachine" ⟨"StageMachine", "tie", "(II)I"⟩ ⟨"StageMachine", "tie", "(II)I"⟩, Cond.code ⟨"StageMachine", "tie", "(II)I"⟩ prog_1_method_8_code 4 (some .int), Cond.methodLink "StageMachine" 89 ⟨"StageMachine$Stage", "tieRope", "(II)I"⟩, Cond.instanceMethod ⟨"StageMachine$Stage", "tieRope", "(II)I"⟩, Cond.selects "StageMachine$Stage" ⟨"StageMachine$Stage", "tieRope", "(II)I"⟩ ⟨"StageMachine$Stage", "tieRope", "(II)I"⟩, Cond.code ⟨"StageMachine$Stage", "tieRope", "(II)I"⟩ prog_7_method_10_code 5 (some .int), Cond.methodLink "StageMachine$Stage" 97 ⟨"StageMachine$Stage", "ropeNumbered", "(I)LStageMachine$Rope;"⟩, Cond.methodLink "StageMachine$Stage" 101 ⟨"StageMachine$Stage", "drumNumbered", "(I)LStageMachine$Drum;"⟩, Cond.instanceMethod ⟨"StageMachine$Stage", "drumNumbered", "(I)LStageMachine$Drum;"⟩]
def ch_3_2 : List Cond := [Cond.selects "StageMachine$Stage" ⟨"StageMachine$Stage", "drumNumbered", "(I)LStageMachine$Drum;"⟩ ⟨"StageMachine$Stage", "drumNumbered", "(I)LStageMachine$Drum;"⟩, Cond.code ⟨"StageMachine$Stage", "drumNumbered", "(I)LStageMachine$Drum;"⟩ prog_7_method_3_code 2 (Option.some (FieldType.object "StageMachine$Drum")), Cond.methodLink "StageMachine$Stage" 117 ⟨"StageMachine$Rope", "spare", "()I"⟩, Cond.instanceMethod ⟨"StageMachine$Rope", "spare", "()I"⟩, Cond.selects "StageMachine$Rope" ⟨"StageMachine$Rope", "spare", "()I"⟩ ⟨"StageMachine$Rope", "spare", "()I"⟩, Cond.code ⟨"StageMachine$Rope", "spare", "()I"⟩ prog_6_method_4_code 1 (some .int), Cond.methodLink "StageMachine$Stage" 121 ⟨"StageMachine$Rope", "bind", "(LStageMachine$Drum;)V"⟩, Cond.instanceMethod ⟨"StageMachine$Rope", "bind", "(LStageMachine$Drum;)V"⟩, Cond.selects "StageMachine$Rope" ⟨"StageMachine$Rope", "bind", "(LStageMachine$Drum;)V"⟩ ⟨"StageMachine$Rope", "bind", "(LStageMachine$Drum;)V"⟩, Cond.code ⟨"StageMachine$Rope", "bind", "(LStageMachine$Drum;)V"⟩ prog_6_method_10_code 2 none, Cond.methodLink "StageMachineLaw" 45 ⟨"StageMachine", "untie", "(I)I"⟩, Cond.instanceMethod ⟨"StageMachine", "untie", "(I)I"⟩, Cond.selects "StageMachine" ⟨"StageMachine", "untie", "(I)I"⟩ ⟨"StageMachine", "untie", "(I)I"⟩, Cond.code ⟨"StageMachine", "untie", "(I)I"⟩ prog_1_method_9_code 3 (some .int), Cond.methodLink "StageMachine" 93 ⟨"StageMachine$Stage", "untieRope", "(I)I"⟩, Cond.instanceMethod ⟨"StageMachine$Stage", "untieRope", "(I)I"⟩]
def ch_3_3 : List Cond := [Cond.selects "StageMachine$Stage" ⟨"StageMachine$Stage", "untieRope", "(I)I"⟩ ⟨"StageMachine$Stage", "untieRope", "(I)I"⟩, Cond.code ⟨"StageMachine$Stage", "untieRope", "(I)I"⟩ prog_7_method_11_code 4 (some .int), Cond.constant "StageMachine$Stage" 129 (-2000000000), Cond.methodLink "StageMachine$Stage" 133 ⟨"StageMachine$Rope", "loosen", "()V"⟩, Cond.instanceMethod ⟨"StageMachine$Rope", "loosen", "()V"⟩, Cond.selects "StageMachine$Rope" ⟨"StageMachine$Rope", "loosen", "()V"⟩ ⟨"StageMachine$Rope", "loosen", "()V"⟩, Cond.code ⟨"StageMachine$Rope", "loosen", "()V"⟩ prog_6_method_11_code 1 none, Cond.methodLink "StageMachineLaw" 49 ⟨"StageMachine", "weight", "(II)I"⟩, Cond.instanceMethod ⟨"StageMachine", "weight", "(II)I"⟩, Cond.selects "StageMachine" ⟨"StageMachine", "weight", "(II)I"⟩ ⟨"StageMachine", "weight", "(II)I"⟩, Cond.code ⟨"StageMachine", "weight", "(II)I"⟩ prog_1_method_10_code 4 (some .int), Cond.methodLink "StageMachine" 96 ⟨"StageMachine$Stage", "setWeight", "(II)I"⟩, Cond.instanceMethod ⟨"StageMachine$Stage", "setWeight", "(II)I"⟩, Cond.selects "StageMachine$Stage" ⟨"StageMachine$Stage", "setWeight", "(II)I"⟩ ⟨"StageMachine$Stage", "setWeight", "(II)I"⟩, Cond.code ⟨"StageMachine$Stage", "setWeight", "(II)I"⟩ prog_7_method_13_code 4 (some .int), Cond.methodLink "StageMachineLaw" 53 ⟨"StageMachine", "bound", "(I)I"⟩]
def ch_3_4 : List Cond := [Cond.instanceMethod ⟨"StageMachine", "bound", "(I)I"⟩, Cond.selects "StageMachine" ⟨"StageMachine", "bound", "(I)I"⟩ ⟨"StageMachine", "bound", "(I)I"⟩, Cond.code ⟨"StageMachine", "bound", "(I)I"⟩ prog_1_method_11_code 2 (some .int), Cond.methodLink "StageMachine" 99 ⟨"StageMachine$Stage", "setBound", "(I)I"⟩, Cond.instanceMethod ⟨"StageMachine$Stage", "setBound", "(I)I"⟩, Cond.selects "StageMachine$Stage" ⟨"StageMachine$Stage", "setBound", "(I)I"⟩ ⟨"StageMachine$Stage", "setBound", "(I)I"⟩, Cond.code ⟨"StageMachine$Stage", "setBound", "(I)I"⟩ prog_7_method_14_code 3 (some .int), Cond.methodLink "StageMachineLaw" 57 ⟨"StageMachine", "pull", "()I"⟩, Cond.instanceMethod ⟨"StageMachine", "pull", "()I"⟩, Cond.selects "StageMachine" ⟨"StageMachine", "pull", "()I"⟩ ⟨"StageMachine", "pull", "()I"⟩, Cond.code ⟨"StageMachine", "pull", "()I"⟩ prog_1_method_12_code 1 (some .int), Cond.methodLink "StageMachine" 102 ⟨"StageMachine$Stage", "pullNow", "()I"⟩, Cond.instanceMethod ⟨"StageMachine$Stage", "pullNow", "()I"⟩, Cond.selects "StageMachine$Stage" ⟨"StageMachine$Stage", "pullNow", "()I"⟩ ⟨"StageMachine$Stage", "pullNow", "()I"⟩, Cond.code ⟨"StageMachine$Stage", "pullNow", "()I"⟩ prog_7_method_15_code 1 (some .int), Cond.methodLink "StageMachine$Stage" 136 ⟨"StageMachine$Stage", "place", "(I)V"⟩]
def ch_3_5 : List Cond := [Cond.instanceMethod ⟨"StageMachine$Stage", "place", "(I)V"⟩, Cond.selects "StageMachine$Stage" ⟨"StageMachine$Stage", "place", "(I)V"⟩ ⟨"StageMachine$Stage", "place", "(I)V"⟩, Cond.code ⟨"StageMachine$Stage", "place", "(I)V"⟩ prog_7_method_16_code 5 none, Cond.methodLink "StageMachine$Stage" 146 ⟨"StageMachine$Rope", "doneAfter", "(I)I"⟩, Cond.instanceMethod ⟨"StageMachine$Rope", "doneAfter", "(I)I"⟩, Cond.selects "StageMachine$Rope" ⟨"StageMachine$Rope", "doneAfter", "(I)I"⟩ ⟨"StageMachine$Rope", "doneAfter", "(I)I"⟩, Cond.code ⟨"StageMachine$Rope", "doneAfter", "(I)I"⟩ prog_6_method_6_code 2 (some .int), Cond.methodLink "StageMachine$Stage" 150 ⟨"StageMachine$Rope", "placeFrom", "(II)I"⟩, Cond.instanceMethod ⟨"StageMachine$Rope", "placeFrom", "(II)I"⟩, Cond.selects "StageMachine$Rope" ⟨"StageMachine$Rope", "placeFrom", "(II)I"⟩ ⟨"StageMachine$Rope", "placeFrom", "(II)I"⟩, Cond.code ⟨"StageMachine$Rope", "placeFrom", "(II)I"⟩ prog_6_method_5_code 3 (some .int), Cond.methodLinkNest "StageMachine$Rope" 57 ⟨"StageMachine", "quotient", "(II)I"⟩ "StageMachine", Cond.static ⟨"StageMachine", "quotient", "(II)I"⟩, Cond.code ⟨"StageMachine", "quotient", "(II)I"⟩ prog_1_method_39_code 2 (some .int), Cond.methodLink "StageMachine$Stage" 140 ⟨"StageMachine$Stage", "trialPull", "()I"⟩, Cond.instanceMethod ⟨"StageMachine$Stage", "trialPull", "()I"⟩]
def ch_3_6 : List Cond := [Cond.selects "StageMachine$Stage" ⟨"StageMachine$Stage", "trialPull", "()I"⟩ ⟨"StageMachine$Stage", "trialPull", "()I"⟩, Cond.code ⟨"StageMachine$Stage", "trialPull", "()I"⟩ prog_7_method_17_code 3 (some .int), Cond.methodLink "StageMachine$Stage" 157 ⟨"StageMachine$Rope", "pullAt", "(I)I"⟩, Cond.instanceMethod ⟨"StageMachine$Rope", "pullAt", "(I)I"⟩, Cond.selects "StageMachine$Rope" ⟨"StageMachine$Rope", "pullAt", "(I)I"⟩ ⟨"StageMachine$Rope", "pullAt", "(I)I"⟩, Cond.code ⟨"StageMachine$Rope", "pullAt", "(I)I"⟩ prog_6_method_7_code 2 (some .int), Cond.methodLink "StageMachineLaw" 62 ⟨"StageMachine", "turn", "(I)I"⟩, Cond.instanceMethod ⟨"StageMachine", "turn", "(I)I"⟩, Cond.selects "StageMachine" ⟨"StageMachine", "turn", "(I)I"⟩ ⟨"StageMachine", "turn", "(I)I"⟩, Cond.code ⟨"StageMachine", "turn", "(I)I"⟩ prog_1_method_13_code 3 (some .int), Cond.methodLink "StageMachine" 106 ⟨"StageMachine", "isTurn", "(I)Z"⟩, Cond.static ⟨"StageMachine", "isTurn", "(I)Z"⟩, Cond.code ⟨"StageMachine", "isTurn", "(I)Z"⟩ prog_1_method_37_code 1 (some .boolean), Cond.methodLink "StageMachine" 234 ⟨"StageMachine", "isWithin", "(III)Z"⟩, Cond.methodLink "StageMachine" 110 ⟨"StageMachine$Turning", "turnBy", "(I)I"⟩, Cond.instanceMethod ⟨"StageMachine$Turning", "turnBy", "(I)I"⟩]
def ch_3_7 : List Cond := [Cond.selects "StageMachine$Turning" ⟨"StageMachine$Turning", "turnBy", "(I)I"⟩ ⟨"StageMachine$Turning", "turnBy", "(I)I"⟩, Cond.code ⟨"StageMachine$Turning", "turnBy", "(I)I"⟩ prog_12_method_2_code 3 (some .int), Cond.methodLink "StageMachine$Turning" 25 ⟨"StageMachine$Turning", "lookAhead", "(I)I"⟩, Cond.instanceMethod ⟨"StageMachine$Turning", "lookAhead", "(I)I"⟩, Cond.selects "StageMachine$Turning" ⟨"StageMachine$Turning", "lookAhead", "(I)I"⟩ ⟨"StageMachine$Turning", "lookAhead", "(I)I"⟩, Cond.code ⟨"StageMachine$Turning", "lookAhead", "(I)I"⟩ prog_12_method_3_code 5 (some .int), Cond.methodLink "StageMachine$Turning" 49 ⟨"java/lang/Math", "abs", "(I)I"⟩, Cond.static ⟨"java/lang/Math", "abs", "(I)I"⟩, Cond.code ⟨"java/lang/Math", "abs", "(I)I"⟩ prog_16_method_59_code 1 (some .int), Cond.methodLink "StageMachine$Turning" 39 ⟨"StageMachine$Stop", "put", "(III)V"⟩, Cond.instanceMethod ⟨"StageMachine$Stop", "put", "(III)V"⟩, Cond.selects "StageMachine$Stop" ⟨"StageMachine$Stop", "put", "(III)V"⟩ ⟨"StageMachine$Stop", "put", "(III)V"⟩, Cond.code ⟨"StageMachine$Stop", "put", "(III)V"⟩ prog_9_method_2_code 4 none, Cond.methodLink "StageMachine$Turning" 54 ⟨"StageMachine$Stage", "place", "(I)V"⟩, Cond.methodLink "StageMachine$Turning" 57 ⟨"StageMachine$Turning", "isBeyond", "()Z"⟩, Cond.privateMethod ⟨"StageMachine$Turning", "isBeyond", "()Z"⟩]
def ch_3_8 : List Cond := [Cond.instanceMethod ⟨"StageMachine$Turning", "isBeyond", "()Z"⟩, Cond.code ⟨"StageMachine$Turning", "isBeyond", "()Z"⟩ prog_12_method_5_code 3 (some .boolean), Cond.methodLinkNest "StageMachine$Turning" 112 ⟨"StageMachine", "isWithin", "(III)Z"⟩ "StageMachine", Cond.methodLink "StageMachine$Turning" 61 ⟨"StageMachine$Turning", "isMeeting", "()Z"⟩, Cond.privateMethod ⟨"StageMachine$Turning", "isMeeting", "()Z"⟩, Cond.instanceMethod ⟨"StageMachine$Turning", "isMeeting", "()Z"⟩, Cond.code ⟨"StageMachine$Turning", "isMeeting", "()Z"⟩ prog_12_method_6_code 3 (some .boolean), Cond.methodLink "StageMachine$Turning" 116 ⟨"StageMachine$Thing", "wouldMeet", "(LStageMachine$Thing;)Z"⟩, Cond.instanceMethod ⟨"StageMachine$Thing", "wouldMeet", "(LStageMachine$Thing;)Z"⟩, Cond.selects "StageMachine$Thing" ⟨"StageMachine$Thing", "wouldMeet", "(LStageMachine$Thing;)Z"⟩ ⟨"StageMachine$Thing", "wouldMeet", "(LStageMachine$Thing;)Z"⟩, Cond.code ⟨"StageMachine$Thing", "wouldMeet", "(LStageMachine$Thing;)Z"⟩ prog_11_method_5_code 2 (some .boolean), Cond.methodLinkNest "StageMachine$Thing" 60 ⟨"StageMachine", "overlap", "(IIII)Z"⟩ "StageMachine", Cond.methodLink "StageMachine$Turning" 64 ⟨"StageMachine$Stage", "trialPull", "()I"⟩, Cond.methodLink "StageMachine$Turning" 68 ⟨"StageMachine$Turning", "isUneven", "(I)Z"⟩, Cond.privateMethod ⟨"StageMachine$Turning", "isUneven", "(I)Z"⟩, Cond.instanceMethod ⟨"StageMachine$Turning", "isUneven", "(I)Z"⟩]
def ch_3_9 : List Cond := [Cond.code ⟨"StageMachine$Turning", "isUneven", "(I)Z"⟩ prog_12_method_7_code 2 (some .boolean), Cond.methodLink "StageMachine$Turning" 72 ⟨"StageMachine$Turning", "stepsToNextMove", "(II)I"⟩, Cond.privateMethod ⟨"StageMachine$Turning", "stepsToNextMove", "(II)I"⟩, Cond.instanceMethod ⟨"StageMachine$Turning", "stepsToNextMove", "(II)I"⟩, Cond.code ⟨"StageMachine$Turning", "stepsToNextMove", "(II)I"⟩ prog_12_method_4_code 5 (some .int), Cond.methodLink "StageMachine$Turning" 86 ⟨"StageMachine$Rope", "stepsToNextPlace", "(II)I"⟩, Cond.instanceMethod ⟨"StageMachine$Rope", "stepsToNextPlace", "(II)I"⟩, Cond.selects "StageMachine$Rope" ⟨"StageMachine$Rope", "stepsToNextPlace", "(II)I"⟩ ⟨"StageMachine$Rope", "stepsToNextPlace", "(II)I"⟩, Cond.code ⟨"StageMachine$Rope", "stepsToNextPlace", "(II)I"⟩ prog_6_method_8_code 7 (some .int), Cond.methodLink "StageMachine$Turning" 91 ⟨"java/lang/Math", "min", "(II)I"⟩, Cond.static ⟨"java/lang/Math", "min", "(II)I"⟩, Cond.code ⟨"java/lang/Math", "min", "(II)I"⟩ prog_16_method_69_code 2 (some .int), Cond.methodLink "StageMachine$Turning" 76 ⟨"java/lang/Math", "max", "(II)I"⟩, Cond.static ⟨"java/lang/Math", "max", "(II)I"⟩, Cond.code ⟨"java/lang/Math", "max", "(II)I"⟩ prog_16_method_65_code 2 (some .int), Cond.methodLink "StageMachine$Turning" 43 ⟨"StageMachine$Stage", "advance", "(I)V"⟩]
def ch_3_10 : List Cond := [Cond.instanceMethod ⟨"StageMachine$Stage", "advance", "(I)V"⟩, Cond.selects "StageMachine$Stage" ⟨"StageMachine$Stage", "advance", "(I)V"⟩ ⟨"StageMachine$Stage", "advance", "(I)V"⟩, Cond.code ⟨"StageMachine$Stage", "advance", "(I)V"⟩ prog_7_method_18_code 3 none, Cond.methodLink "StageMachine$Stage" 160 ⟨"StageMachine$Rope", "advance", "(I)V"⟩, Cond.instanceMethod ⟨"StageMachine$Rope", "advance", "(I)V"⟩, Cond.selects "StageMachine$Rope" ⟨"StageMachine$Rope", "advance", "(I)V"⟩ ⟨"StageMachine$Rope", "advance", "(I)V"⟩, Cond.code ⟨"StageMachine$Rope", "advance", "(I)V"⟩ prog_6_method_9_code 2 none, Cond.methodLink "StageMachine$Rope" 66 ⟨"StageMachine$Rope", "doneAfter", "(I)I"⟩, Cond.methodLink "StageMachine$Rope" 70 ⟨"StageMachine$Rope", "placeFrom", "(II)I"⟩, Cond.methodLink "StageMachine$Stage" 169 ⟨"java/lang/Math", "abs", "(I)I"⟩, Cond.methodLink "StageMachineLaw" 66 ⟨"StageMachine", "stopped", "(I)I"⟩, Cond.instanceMethod ⟨"StageMachine", "stopped", "(I)I"⟩, Cond.selects "StageMachine" ⟨"StageMachine", "stopped", "(I)I"⟩ ⟨"StageMachine", "stopped", "(I)I"⟩, Cond.code ⟨"StageMachine", "stopped", "(I)I"⟩ prog_1_method_14_code 2 (some .int), Cond.methodLink "StageMachine" 117 ⟨"StageMachine$Stop", "tell", "(I)I"⟩, Cond.instanceMethod ⟨"StageMachine$Stop", "tell", "(I)I"⟩]
def ch_3_11 : List Cond := [Cond.selects "StageMachine$Stop" ⟨"StageMachine$Stop", "tell", "(I)I"⟩ ⟨"StageMachine$Stop", "tell", "(I)I"⟩, Cond.code ⟨"StageMachine$Stop", "tell", "(I)I"⟩ prog_9_method_3_code 2 (some .int), Cond.methodLink "StageMachineLaw" 70 ⟨"StageMachine", "free", "(I)I"⟩, Cond.instanceMethod ⟨"StageMachine", "free", "(I)I"⟩, Cond.selects "StageMachine" ⟨"StageMachine", "free", "(I)I"⟩ ⟨"StageMachine", "free", "(I)I"⟩, Cond.code ⟨"StageMachine", "free", "(I)I"⟩ prog_1_method_15_code 2 (some .int), Cond.methodLink "StageMachine" 120 ⟨"StageMachine$Turning", "lookAhead", "(I)I"⟩, Cond.methodLink "StageMachineLaw" 74 ⟨"StageMachine", "snap", "(I)I"⟩, Cond.instanceMethod ⟨"StageMachine", "snap", "(I)I"⟩, Cond.selects "StageMachine" ⟨"StageMachine", "snap", "(I)I"⟩ ⟨"StageMachine", "snap", "(I)I"⟩, Cond.code ⟨"StageMachine", "snap", "(I)I"⟩ prog_1_method_16_code 3 (some .int), Cond.methodLink "StageMachine" 123 ⟨"StageMachine$Stage", "breakRope", "(I)I"⟩, Cond.instanceMethod ⟨"StageMachine$Stage", "breakRope", "(I)I"⟩, Cond.selects "StageMachine$Stage" ⟨"StageMachine$Stage", "breakRope", "(I)I"⟩ ⟨"StageMachine$Stage", "breakRope", "(I)I"⟩, Cond.code ⟨"StageMachine$Stage", "breakRope", "(I)I"⟩ prog_7_method_19_code 4 (some .int), Cond.methodLink "StageMachine$Stage" 177 ⟨"StageMachine$Stage", "fall", "(LStageMachine$Thing;II)I"⟩]
def ch_3_12 : List Cond := [Cond.privateMethod ⟨"StageMachine$Stage", "fall", "(LStageMachine$Thing;II)I"⟩, Cond.instanceMethod ⟨"StageMachine$Stage", "fall", "(LStageMachine$Thing;II)I"⟩, Cond.code ⟨"StageMachine$Stage", "fall", "(LStageMachine$Thing;II)I"⟩ prog_7_method_20_code 5 (some .int), Cond.methodLink "StageMachine$Stage" 181 ⟨"StageMachine$Stage", "canFall", "(LStageMachine$Thing;I)Z"⟩, Cond.privateMethod ⟨"StageMachine$Stage", "canFall", "(LStageMachine$Thing;I)Z"⟩, Cond.instanceMethod ⟨"StageMachine$Stage", "canFall", "(LStageMachine$Thing;I)Z"⟩, Cond.code ⟨"StageMachine$Stage", "canFall", "(LStageMachine$Thing;I)Z"⟩ prog_7_method_21_code 3 (some .boolean), Cond.methodLink "StageMachine$Stage" 185 ⟨"StageMachine$Stage", "isCatch", "(II)Z"⟩, Cond.privateMethod ⟨"StageMachine$Stage", "isCatch", "(II)Z"⟩, Cond.instanceMethod ⟨"StageMachine$Stage", "isCatch", "(II)Z"⟩, Cond.code ⟨"StageMachine$Stage", "isCatch", "(II)Z"⟩ prog_7_method_22_code 4 (some .boolean), Cond.methodLink "StageMachineLaw" 78 ⟨"StageMachine", "hold", "(I)I"⟩, Cond.instanceMethod ⟨"StageMachine", "hold", "(I)I"⟩, Cond.selects "StageMachine" ⟨"StageMachine", "hold", "(I)I"⟩ ⟨"StageMachine", "hold", "(I)I"⟩, Cond.code ⟨"StageMachine", "hold", "(I)I"⟩ prog_1_method_17_code 2 (some .int), Cond.methodLink "StageMachine" 126 ⟨"StageMachine$Stage", "addCatch", "(I)I"⟩]
def ch_3_13 : List Cond := [Cond.instanceMethod ⟨"StageMachine$Stage", "addCatch", "(I)I"⟩, Cond.selects "StageMachine$Stage" ⟨"StageMachine$Stage", "addCatch", "(I)I"⟩ ⟨"StageMachine$Stage", "addCatch", "(I)I"⟩, Cond.code ⟨"StageMachine$Stage", "addCatch", "(I)I"⟩ prog_7_method_23_code 4 (some .int), Cond.methodLink "StageMachineLaw" 82 ⟨"StageMachine", "scene", "(III)I"⟩, Cond.instanceMethod ⟨"StageMachine", "scene", "(III)I"⟩, Cond.selects "StageMachine" ⟨"StageMachine", "scene", "(III)I"⟩ ⟨"StageMachine", "scene", "(III)I"⟩, Cond.code ⟨"StageMachine", "scene", "(III)I"⟩ prog_1_method_18_code 5 (some .int), Cond.methodLink "StageMachine" 129 ⟨"StageMachine$Thing", "tellScene", "(II)I"⟩, Cond.instanceMethod ⟨"StageMachine$Thing", "tellScene", "(II)I"⟩, Cond.selects "StageMachine$Thing" ⟨"StageMachine$Thing", "tellScene", "(II)I"⟩ ⟨"StageMachine$Thing", "tellScene", "(II)I"⟩, Cond.code ⟨"StageMachine$Thing", "tellScene", "(II)I"⟩ prog_11_method_3_code 5 (some .int), Cond.methodLinkNest "StageMachine$Thing" 53 ⟨"StageMachine", "isWithin", "(III)Z"⟩ "StageMachine", Cond.methodLink "StageMachineLaw" 86 ⟨"StageMachine", "change", "(II)I"⟩, Cond.instanceMethod ⟨"StageMachine", "change", "(II)I"⟩, Cond.selects "StageMachine" ⟨"StageMachine", "change", "(II)I"⟩ ⟨"StageMachine", "change", "(II)I"⟩, Cond.code ⟨"StageMachine", "change", "(II)I"⟩ prog_1_method_19_code 3 (some .int)]
def ch_3_14 : List Cond := [Cond.methodLink "StageMachine" 132 ⟨"StageMachine$Change", "plan", "(II)I"⟩, Cond.instanceMethod ⟨"StageMachine$Change", "plan", "(II)I"⟩, Cond.selects "StageMachine$Change" ⟨"StageMachine$Change", "plan", "(II)I"⟩ ⟨"StageMachine$Change", "plan", "(II)I"⟩, Cond.code ⟨"StageMachine$Change", "plan", "(II)I"⟩ prog_3_method_2_code 7 (some .int), Cond.methodLinkNest "StageMachine$Change" 25 ⟨"StageMachine", "isWithin", "(III)Z"⟩ "StageMachine", Cond.methodLinkNest "StageMachine$Change" 29 ⟨"StageMachine", "isTurn", "(I)Z"⟩ "StageMachine", Cond.methodLink "StageMachine$Change" 40 ⟨"java/util/Arrays", "fill", "([II)V"⟩, Cond.methodLink "StageMachine$Change" 64 ⟨"StageMachine$Change", "findTie", "(LStageMachine$Thing;II)Z"⟩, Cond.privateMethod ⟨"StageMachine$Change", "findTie", "(LStageMachine$Thing;II)Z"⟩, Cond.instanceMethod ⟨"StageMachine$Change", "findTie", "(LStageMachine$Thing;II)Z"⟩, Cond.code ⟨"StageMachine$Change", "findTie", "(LStageMachine$Thing;II)Z"⟩ prog_3_method_3_code 8 (some .boolean), Cond.methodLink "StageMachine$Change" 86 ⟨"StageMachine$Rope", "spare", "()I"⟩, Cond.methodLink "StageMachine$Change" 90 ⟨"StageMachine$Change", "findDrum", "(LStageMachine$Rope;II)I"⟩, Cond.privateMethod ⟨"StageMachine$Change", "findDrum", "(LStageMachine$Rope;II)I"⟩, Cond.instanceMethod ⟨"StageMachine$Change", "findDrum", "(LStageMachine$Rope;II)I"⟩, Cond.code ⟨"StageMachine$Change", "findDrum", "(LStageMachine$Rope;II)I"⟩ prog_3_method_4_code 5 (some .int)]
set_option maxRecDepth 30000 in
theorem tc_3 : tables_1_3 = ch_3_0 ++ (ch_3_1 ++ (ch_3_2 ++ (ch_3_3 ++ (ch_3_4 ++ (ch_3_5 ++ (ch_3_6 ++ (ch_3_7 ++ (ch_3_8 ++ (ch_3_9 ++ (ch_3_10 ++ (ch_3_11 ++ (ch_3_12 ++ (ch_3_13 ++ (ch_3_14)))))))))))))) := rfl
theorem tm_3 {w : Cond} (h1 : w ∈ tables_1_3) : w ∈ tables_1 := List.mem_append_right _ (List.mem_append_right _ (List.mem_append_left _ h1))
theorem tb_3_0 {i : Nat} {w : Cond} (h : ch_3_0[i]? = some w) : w ∈ tables_1 := by
  have h1 := List.mem_of_getElem? h
  refine tm_3 ?_
  rw [tc_3]
  exact List.mem_append_left _ h1
theorem tb_3_1 {i : Nat} {w : Cond} (h : ch_3_1[i]? = some w) : w ∈ tables_1 := by
  have h1 := List.mem_of_getElem? h
  refine tm_3 ?_
  rw [tc_3]
  exact List.mem_append_right _ (List.mem_append_left _ h1)
theorem tb_3_2 {i : Nat} {w : Cond} (h : ch_3_2[i]? = some w) : w ∈ tables_1 := by
  have h1 := List.mem_of_getElem? h
  refine tm_3 ?_
  rw [tc_3]
  exact List.mem_append_right _ (List.mem_append_right _ (List.mem_append_left _ h1))
theorem tb_3_3 {i : Nat} {w : Cond} (h : ch_3_3[i]? = some w) : w ∈ tables_1 := by
  have h1 := List.mem_of_getElem? h
  refine tm_3 ?_
  rw [tc_3]
  exact List.mem_append_right _ (List.mem_append_right _ (List.mem_append_right _ (List.mem_append_left _ h1)))
theorem tb_3_4 {i : Nat} {w : Cond} (h : ch_3_4[i]? = some w) : w ∈ tables_1 := by
  have h1 := List.mem_of_getElem? h
  refine tm_3 ?_
  rw [tc_3]
  exact List.mem_append_right _ (List.mem_append_right _ (List.mem_append_right _ (List.mem_append_right _ (List.mem_append_left _ h1))))
theorem tb_3_5 {i : Nat} {w : Cond} (h : ch_3_5[i]? = some w) : w ∈ tables_1 := by
  have h1 := List.mem_of_getElem? h
  refine tm_3 ?_
  rw [tc_3]
  exact List.mem_append_right _ (List.mem_append_right _ (List.mem_append_right _ (List.mem_append_right _ (List.mem_append_right _ (List.mem_append_left _ h1)))))
theorem tb_3_6 {i : Nat} {w : Cond} (h : ch_3_6[i]? = some w) : w ∈ tables_1 := by
  have h1 := List.mem_of_getElem? h
  refine tm_3 ?_
  rw [tc_3]
  exact List.mem_append_right _ (List.mem_append_right _ (List.mem_append_right _ (List.mem_append_right _ (List.mem_append_right _ (List.mem_append_right _ (List.mem_append_left _ h1))))))
theorem tb_3_7 {i : Nat} {w : Cond} (h : ch_3_7[i]? = some w) : w ∈ tables_1 := by
  have h1 := List.mem_of_getElem? h
  refine tm_3 ?_
  rw [tc_3]
  exact List.mem_append_right _ (List.mem_append_right _ (List.mem_append_right _ (List.mem_append_right _ (List.mem_append_right _ (List.mem_append_right _ (List.mem_append_right _ (List.mem_append_left _ h1)))))))
theorem tb_3_8 {i : Nat} {w : Cond} (h : ch_3_8[i]? = some w) : w ∈ tables_1 := by
  have h1 := List.mem_of_getElem? h
  refine tm_3 ?_
  rw [tc_3]
  exact List.mem_append_right _ (List.mem_append_right _ (List.mem_append_right _ (List.mem_append_right _ (List.mem_append_right _ (List.mem_append_right _ (List.mem_append_right _ (List.mem_append_right _ (List.mem_append_left _ h1))))))))
theorem tb_3_9 {i : Nat} {w : Cond} (h : ch_3_9[i]? = some w) : w ∈ tables_1 := by
  have h1 := List.mem_of_getElem? h
  refine tm_3 ?_
  rw [tc_3]
  exact List.mem_append_right _ (List.mem_append_right _ (List.mem_append_right _ (List.mem_append_right _ (List.mem_append_right _ (List.mem_append_right _ (List.mem_append_right _ (List.mem_append_right _ (List.mem_append_right _ (List.mem_append_left _ h1)))))))))
theorem tb_3_10 {i : Nat} {w : Cond} (h : ch_3_10[i]? = some w) : w ∈ tables_1 := by
  have h1 := List.mem_of_getElem? h
  refine tm_3 ?_
  rw [tc_3]
  exact List.mem_append_right _ (List.mem_append_right _ (List.mem_append_right _ (List.mem_append_right _ (List.mem_append_right _ (List.mem_append_right _ (List.mem_append_right _ (List.mem_append_right _ (List.mem_append_right _ (List.mem_append_right _ (List.mem_append_left _ h1))))))))))
theorem tb_3_11 {i : Nat} {w : Cond} (h : ch_3_11[i]? = some w) : w ∈ tables_1 := by
  have h1 := List.mem_of_getElem? h
  refine tm_3 ?_
  rw [tc_3]
  exact List.mem_append_right _ (List.mem_append_right _ (List.mem_append_right _ (List.mem_append_right _ (List.mem_append_right _ (List.mem_append_right _ (List.mem_append_right _ (List.mem_append_right _ (List.mem_append_right _ (List.mem_append_right _ (List.mem_append_right _ (List.mem_append_left _ h1)))))))))))
theorem tb_3_12 {i : Nat} {w : Cond} (h : ch_3_12[i]? = some w) : w ∈ tables_1 := by
  have h1 := List.mem_of_getElem? h
  refine tm_3 ?_
  rw [tc_3]
  exact List.mem_append_right _ (List.mem_append_right _ (List.mem_append_right _ (List.mem_append_right _ (List.mem_append_right _ (List.mem_append_right _ (List.mem_append_right _ (List.mem_append_right _ (List.mem_append_right _ (List.mem_append_right _ (List.mem_append_right _ (List.mem_append_right _ (List.mem_append_left _ h1))))))))))))
theorem tb_3_13 {i : Nat} {w : Cond} (h : ch_3_13[i]? = some w) : w ∈ tables_1 := by
  have h1 := List.mem_of_getElem? h
  refine tm_3 ?_
  rw [tc_3]
  exact List.mem_append_right _ (List.mem_append_right _ (List.mem_append_right _ (List.mem_append_right _ (List.mem_append_right _ (List.mem_append_right _ (List.mem_append_right _ (List.mem_append_right _ (List.mem_append_right _ (List.mem_append_right _ (List.mem_append_right _ (List.mem_append_right _ (List.mem_append_right _ (List.mem_append_left _ h1)))))))))))))
theorem tb_3_14 {i : Nat} {w : Cond} (h : ch_3_14[i]? = some w) : w ∈ tables_1 := by
  have h1 := List.mem_of_getElem? h
  refine tm_3 ?_
  rw [tc_3]
  exact List.mem_append_right _ (List.mem_append_right _ (List.mem_append_right _ (List.mem_append_right _ (List.mem_append_right _ (List.mem_append_right _ (List.mem_append_right _ (List.mem_append_right _ (List.mem_append_right _ (List.mem_append_right _ (List.mem_append_right _ (List.mem_append_right _ (List.mem_append_right _ (List.mem_append_right _ (h1))))))))))))))
def ch_4_0 : List Cond := [Cond.methodLink "StageMachine$Change" 108 ⟨"StageMachine$Rope", "placeFrom", "(II)I"⟩, Cond.methodLink "StageMachine$Change" 68 ⟨"StageMachine$Change", "countWorks", "()V"⟩, Cond.privateMethod ⟨"StageMachine$Change", "countWorks", "()V"⟩, Cond.instanceMethod ⟨"StageMachine$Change", "countWorks", "()V"⟩, Cond.code ⟨"StageMachine$Change", "countWorks", "()V"⟩ prog_3_method_5_code 3 none, Cond.methodLink "StageMachine$Change" 125 ⟨"StageMachine$Change", "isReady", "(LStageMachine$Rope;I)Z"⟩, Cond.privateMethod ⟨"StageMachine$Change", "isReady", "(LStageMachine$Rope;I)Z"⟩, Cond.instanceMethod ⟨"StageMachine$Change", "isReady", "(LStageMachine$Rope;I)Z"⟩, Cond.code ⟨"StageMachine$Change", "isReady", "(LStageMachine$Rope;I)Z"⟩ prog_3_method_6_code 3 (some .boolean), Cond.methodLink "StageMachineLaw" 90 ⟨"StageMachine", "told", "(II)I"⟩, Cond.instanceMethod ⟨"StageMachine", "told", "(II)I"⟩, Cond.selects "StageMachine" ⟨"StageMachine", "told", "(II)I"⟩ ⟨"StageMachine", "told", "(II)I"⟩, Cond.code ⟨"StageMachine", "told", "(II)I"⟩ prog_1_method_20_code 3 (some .int), Cond.methodLink "StageMachine" 135 ⟨"StageMachine$Change", "tieOf", "(II)I"⟩, Cond.instanceMethod ⟨"StageMachine$Change", "tieOf", "(II)I"⟩, Cond.selects "StageMachine$Change" ⟨"StageMachine$Change", "tieOf", "(II)I"⟩ ⟨"StageMachine$Change", "tieOf", "(II)I"⟩]
def ch_4_1 : List Cond := [Cond.code ⟨"StageMachine$Change", "tieOf", "(II)I"⟩ prog_3_method_7_code 4 (some .int), Cond.methodLink "StageMachine$Change" 138 ⟨"StageMachine$Stage", "thingNumbered", "(I)LStageMachine$Thing;"⟩, Cond.methodLink "StageMachineLaw" 94 ⟨"StageMachine", "work", "(I)I"⟩, Cond.instanceMethod ⟨"StageMachine", "work", "(I)I"⟩, Cond.selects "StageMachine" ⟨"StageMachine", "work", "(I)I"⟩ ⟨"StageMachine", "work", "(I)I"⟩, Cond.code ⟨"StageMachine", "work", "(I)I"⟩ prog_1_method_21_code 2 (some .int), Cond.methodLink "StageMachine" 138 ⟨"StageMachine$Change", "workFor", "(I)I"⟩, Cond.instanceMethod ⟨"StageMachine$Change", "workFor", "(I)I"⟩, Cond.selects "StageMachine$Change" ⟨"StageMachine$Change", "workFor", "(I)I"⟩ ⟨"StageMachine$Change", "workFor", "(I)I"⟩, Cond.code ⟨"StageMachine$Change", "workFor", "(I)I"⟩ prog_3_method_8_code 2 (some .int), Cond.methodLink "StageMachine$Change" 142 ⟨"StageMachine$Change", "works", "()I"⟩, Cond.privateMethod ⟨"StageMachine$Change", "works", "()I"⟩, Cond.instanceMethod ⟨"StageMachine$Change", "works", "()I"⟩, Cond.code ⟨"StageMachine$Change", "works", "()I"⟩ prog_3_method_9_code 1 (some .int), Cond.methodLink "StageMachineLaw" 98 ⟨"StageMachine", "men", "(I)I"⟩, Cond.instanceMethod ⟨"StageMachine", "men", "(I)I"⟩]
def ch_4_2 : List Cond := [Cond.selects "StageMachine" ⟨"StageMachine", "men", "(I)I"⟩ ⟨"StageMachine", "men", "(I)I"⟩, Cond.code ⟨"StageMachine", "men", "(I)I"⟩ prog_1_method_22_code 2 (some .int), Cond.methodLink "StageMachine" 141 ⟨"StageMachine$Change", "leastMen", "(I)I"⟩, Cond.instanceMethod ⟨"StageMachine$Change", "leastMen", "(I)I"⟩, Cond.selects "StageMachine$Change" ⟨"StageMachine$Change", "leastMen", "(I)I"⟩ ⟨"StageMachine$Change", "leastMen", "(I)I"⟩, Cond.code ⟨"StageMachine$Change", "leastMen", "(I)I"⟩ prog_3_method_10_code 2 (some .int), Cond.methodLink "StageMachine$Change" 145 ⟨"StageMachine$Change", "longestWork", "()I"⟩, Cond.privateMethod ⟨"StageMachine$Change", "longestWork", "()I"⟩, Cond.instanceMethod ⟨"StageMachine$Change", "longestWork", "()I"⟩, Cond.code ⟨"StageMachine$Change", "longestWork", "()I"⟩ prog_3_method_11_code 1 (some .int), Cond.methodLink "StageMachine$Change" 148 ⟨"StageMachine$Change", "shareOut", "(I)I"⟩, Cond.privateMethod ⟨"StageMachine$Change", "shareOut", "(I)I"⟩, Cond.instanceMethod ⟨"StageMachine$Change", "shareOut", "(I)I"⟩, Cond.code ⟨"StageMachine$Change", "shareOut", "(I)I"⟩ prog_3_method_12_code 6 (some .int), Cond.methodLink "StageMachine$Change" 155 ⟨"StageMachine$Change", "leastShare", "(IIII)I"⟩, Cond.privateMethod ⟨"StageMachine$Change", "leastShare", "(IIII)I"⟩]
def ch_4_3 : List Cond := [Cond.instanceMethod ⟨"StageMachine$Change", "leastShare", "(IIII)I"⟩, Cond.code ⟨"StageMachine$Change", "leastShare", "(IIII)I"⟩ prog_3_method_13_code 6 (some .int), Cond.methodLink "StageMachine$Change" 159 ⟨"StageMachine$Change", "slot", "(III)I"⟩, Cond.privateMethod ⟨"StageMachine$Change", "slot", "(III)I"⟩, Cond.instanceMethod ⟨"StageMachine$Change", "slot", "(III)I"⟩, Cond.code ⟨"StageMachine$Change", "slot", "(III)I"⟩ prog_3_method_15_code 4 (some .int), Cond.methodLink "StageMachine$Change" 163 ⟨"StageMachine$Change", "withWork", "(III)I"⟩, Cond.privateMethod ⟨"StageMachine$Change", "withWork", "(III)I"⟩, Cond.instanceMethod ⟨"StageMachine$Change", "withWork", "(III)I"⟩, Cond.code ⟨"StageMachine$Change", "withWork", "(III)I"⟩ prog_3_method_14_code 5 (some .int), Cond.methodLink "StageMachine$Change" 166 ⟨"java/lang/Math", "min", "(II)I"⟩, Cond.methodLinkNest "StageMachine$Change" 152 ⟨"StageMachine", "quotient", "(II)I"⟩ "StageMachine", Cond.methodLink "StageMachineLaw" 102 ⟨"StageMachine", "feed", "(II)I"⟩, Cond.instanceMethod ⟨"StageMachine", "feed", "(II)I"⟩, Cond.selects "StageMachine" ⟨"StageMachine", "feed", "(II)I"⟩ ⟨"StageMachine", "feed", "(II)I"⟩, Cond.code ⟨"StageMachine", "feed", "(II)I"⟩ prog_1_method_23_code 3 (some .int)]
def ch_4_4 : List Cond := [Cond.methodLink "StageMachine" 144 ⟨"StageMachine$Tape", "take", "(II)I"⟩, Cond.instanceMethod ⟨"StageMachine$Tape", "take", "(II)I"⟩, Cond.selects "StageMachine$Tape" ⟨"StageMachine$Tape", "take", "(II)I"⟩ ⟨"StageMachine$Tape", "take", "(II)I"⟩, Cond.code ⟨"StageMachine$Tape", "take", "(II)I"⟩ prog_10_method_2_code 4 (some .int), Cond.methodLinkNest "StageMachine$Tape" 24 ⟨"StageMachine", "isWithin", "(III)Z"⟩ "StageMachine", Cond.methodLink "StageMachineLaw" 106 ⟨"StageMachine", "play", "()I"⟩, Cond.instanceMethod ⟨"StageMachine", "play", "()I"⟩, Cond.selects "StageMachine" ⟨"StageMachine", "play", "()I"⟩ ⟨"StageMachine", "play", "()I"⟩, Cond.code ⟨"StageMachine", "play", "()I"⟩ prog_1_method_24_code 4 (some .int), Cond.methodLink "StageMachine" 147 ⟨"StageMachine$Tape", "readLines", "()I"⟩, Cond.instanceMethod ⟨"StageMachine$Tape", "readLines", "()I"⟩, Cond.selects "StageMachine$Tape" ⟨"StageMachine$Tape", "readLines", "()I"⟩ ⟨"StageMachine$Tape", "readLines", "()I"⟩, Cond.code ⟨"StageMachine$Tape", "readLines", "()I"⟩ prog_10_method_3_code 1 (some .int), Cond.methodLink "StageMachine$Tape" 38 ⟨"StageMachine$Tape", "readLine", "(I)Z"⟩, Cond.privateMethod ⟨"StageMachine$Tape", "readLine", "(I)Z"⟩, Cond.instanceMethod ⟨"StageMachine$Tape", "readLine", "(I)Z"⟩]
def ch_4_5 : List Cond := [Cond.code ⟨"StageMachine$Tape", "readLine", "(I)Z"⟩ prog_10_method_4_code 3 (some .boolean), Cond.methodLink "StageMachine$Tape" 42 ⟨"StageMachine$Tape", "peek", "()I"⟩, Cond.privateMethod ⟨"StageMachine$Tape", "peek", "()I"⟩, Cond.instanceMethod ⟨"StageMachine$Tape", "peek", "()I"⟩, Cond.code ⟨"StageMachine$Tape", "peek", "()I"⟩ prog_10_method_9_code 1 (some .int), Cond.methodLink "StageMachine$Tape" 46 ⟨"StageMachine$Tape", "readTwo", "(IZ)Z"⟩, Cond.privateMethod ⟨"StageMachine$Tape", "readTwo", "(IZ)Z"⟩, Cond.instanceMethod ⟨"StageMachine$Tape", "readTwo", "(IZ)Z"⟩, Cond.code ⟨"StageMachine$Tape", "readTwo", "(IZ)Z"⟩ prog_10_method_6_code 3 (some .boolean), Cond.methodLink "StageMachine$Tape" 53 ⟨"StageMachine$Tape", "readNumber", "(Z)Z"⟩, Cond.privateMethod ⟨"StageMachine$Tape", "readNumber", "(Z)Z"⟩, Cond.instanceMethod ⟨"StageMachine$Tape", "readNumber", "(Z)Z"⟩, Cond.code ⟨"StageMachine$Tape", "readNumber", "(Z)Z"⟩ prog_10_method_7_code 4 (some .boolean), Cond.methodLink "StageMachine$Tape" 60 ⟨"StageMachine$Tape", "readSign", "(I)Z"⟩, Cond.privateMethod ⟨"StageMachine$Tape", "readSign", "(I)Z"⟩, Cond.instanceMethod ⟨"StageMachine$Tape", "readSign", "(I)Z"⟩]
def ch_4_6 : List Cond := [Cond.code ⟨"StageMachine$Tape", "readSign", "(I)Z"⟩ prog_10_method_8_code 2 (some .boolean), Cond.methodLink "StageMachine$Tape" 50 ⟨"StageMachine$Tape", "readOne", "(IZ)Z"⟩, Cond.privateMethod ⟨"StageMachine$Tape", "readOne", "(IZ)Z"⟩, Cond.instanceMethod ⟨"StageMachine$Tape", "readOne", "(IZ)Z"⟩, Cond.code ⟨"StageMachine$Tape", "readOne", "(IZ)Z"⟩ prog_10_method_5_code 3 (some .boolean), Cond.methodLink "StageMachine" 154 ⟨"StageMachine$Stage", "keep", "()V"⟩, Cond.instanceMethod ⟨"StageMachine$Stage", "keep", "()V"⟩, Cond.selects "StageMachine$Stage" ⟨"StageMachine$Stage", "keep", "()V"⟩ ⟨"StageMachine$Stage", "keep", "()V"⟩, Cond.code ⟨"StageMachine$Stage", "keep", "()V"⟩ prog_7_method_25_code 3 none, Cond.methodLink "StageMachine$Stage" 204 ⟨"java/lang/System", "arraycopy", "(Ljava/lang/Object;ILjava/lang/Object;II)V"⟩, Cond.static ⟨"java/lang/System", "arraycopy", "(Ljava/lang/Object;ILjava/lang/Object;II)V"⟩, Cond.native ⟨"java/lang/System", "arraycopy", "(Ljava/lang/Object;ILjava/lang/Object;II)V"⟩, Cond.methodLink "StageMachine" 164 ⟨"StageMachine", "playLine", "(I)I"⟩, Cond.privateMethod ⟨"StageMachine", "playLine", "(I)I"⟩, Cond.instanceMethod ⟨"StageMachine", "playLine", "(I)I"⟩, Cond.code ⟨"StageMachine", "playLine", "(I)I"⟩ prog_1_method_36_code 4 (some .int)]
def ch_4_7 : List Cond := [Cond.methodLink "StageMachine" 229 ⟨"java/lang/Math", "abs", "(I)I"⟩, Cond.methodLink "StageMachineLaw" 110 ⟨"StageMachine", "back", "()I"⟩, Cond.instanceMethod ⟨"StageMachine", "back", "()I"⟩, Cond.selects "StageMachine" ⟨"StageMachine", "back", "()I"⟩ ⟨"StageMachine", "back", "()I"⟩, Cond.code ⟨"StageMachine", "back", "()I"⟩ prog_1_method_25_code 1 (some .int), Cond.methodLink "StageMachine" 167 ⟨"StageMachine$Stage", "restore", "()V"⟩, Cond.instanceMethod ⟨"StageMachine$Stage", "restore", "()V"⟩, Cond.selects "StageMachine$Stage" ⟨"StageMachine$Stage", "restore", "()V"⟩ ⟨"StageMachine$Stage", "restore", "()V"⟩, Cond.code ⟨"StageMachine$Stage", "restore", "()V"⟩ prog_7_method_26_code 3 none, Cond.methodLink "StageMachineLaw" 114 ⟨"StageMachine", "candle", "(I)I"⟩, Cond.instanceMethod ⟨"StageMachine", "candle", "(I)I"⟩, Cond.selects "StageMachine" ⟨"StageMachine", "candle", "(I)I"⟩ ⟨"StageMachine", "candle", "(I)I"⟩, Cond.code ⟨"StageMachine", "candle", "(I)I"⟩ prog_1_method_26_code 2 (some .int), Cond.methodLink "StageMachine" 170 ⟨"StageMachine$Candles", "add", "(I)I"⟩, Cond.instanceMethod ⟨"StageMachine$Candles", "add", "(I)I"⟩, Cond.selects "StageMachine$Candles" ⟨"StageMachine$Candles", "add", "(I)I"⟩ ⟨"StageMachine$Candles", "add", "(I)I"⟩]
def ch_4_8 : List Cond := [Cond.code ⟨"StageMachine$Candles", "add", "(I)I"⟩ prog_2_method_2_code 2 (some .int), Cond.methodLinkNest "StageMachine$Candles" 18 ⟨"StageMachine", "isWithin", "(III)Z"⟩ "StageMachine", Cond.methodLink "StageMachineLaw" 118 ⟨"StageMachine", "minutes", "(I)I"⟩, Cond.instanceMethod ⟨"StageMachine", "minutes", "(I)I"⟩, Cond.selects "StageMachine" ⟨"StageMachine", "minutes", "(I)I"⟩ ⟨"StageMachine", "minutes", "(I)I"⟩, Cond.code ⟨"StageMachine", "minutes", "(I)I"⟩ prog_1_method_27_code 2 (some .int), Cond.methodLink "StageMachine" 173 ⟨"StageMachine$Candles", "pass", "(I)I"⟩, Cond.instanceMethod ⟨"StageMachine$Candles", "pass", "(I)I"⟩, Cond.selects "StageMachine$Candles" ⟨"StageMachine$Candles", "pass", "(I)I"⟩ ⟨"StageMachine$Candles", "pass", "(I)I"⟩, Cond.code ⟨"StageMachine$Candles", "pass", "(I)I"⟩ prog_2_method_3_code 2 (some .int), Cond.methodLink "StageMachineLaw" 122 ⟨"StageMachine", "trim", "(I)I"⟩, Cond.instanceMethod ⟨"StageMachine", "trim", "(I)I"⟩, Cond.selects "StageMachine" ⟨"StageMachine", "trim", "(I)I"⟩ ⟨"StageMachine", "trim", "(I)I"⟩, Cond.code ⟨"StageMachine", "trim", "(I)I"⟩ prog_1_method_28_code 2 (some .int), Cond.methodLink "StageMachine" 176 ⟨"StageMachine$Candles", "renew", "(I)I"⟩, Cond.instanceMethod ⟨"StageMachine$Candles", "renew", "(I)I"⟩]
def ch_4_9 : List Cond := [Cond.selects "StageMachine$Candles" ⟨"StageMachine$Candles", "renew", "(I)I"⟩ ⟨"StageMachine$Candles", "renew", "(I)I"⟩, Cond.code ⟨"StageMachine$Candles", "renew", "(I)I"⟩ prog_2_method_4_code 4 (some .int), Cond.methodLink "StageMachineLaw" 126 ⟨"StageMachine", "light", "(I)I"⟩, Cond.instanceMethod ⟨"StageMachine", "light", "(I)I"⟩, Cond.selects "StageMachine" ⟨"StageMachine", "light", "(I)I"⟩ ⟨"StageMachine", "light", "(I)I"⟩, Cond.code ⟨"StageMachine", "light", "(I)I"⟩ prog_1_method_29_code 2 (some .int), Cond.methodLink "StageMachine" 179 ⟨"StageMachine$Candles", "tell", "(I)I"⟩, Cond.instanceMethod ⟨"StageMachine$Candles", "tell", "(I)I"⟩, Cond.selects "StageMachine$Candles" ⟨"StageMachine$Candles", "tell", "(I)I"⟩ ⟨"StageMachine$Candles", "tell", "(I)I"⟩, Cond.code ⟨"StageMachine$Candles", "tell", "(I)I"⟩ prog_2_method_5_code 2 (some .int), Cond.methodLink "StageMachine$Candles" 29 ⟨"StageMachine$Candles", "burning", "()I"⟩, Cond.privateMethod ⟨"StageMachine$Candles", "burning", "()I"⟩, Cond.instanceMethod ⟨"StageMachine$Candles", "burning", "()I"⟩, Cond.code ⟨"StageMachine$Candles", "burning", "()I"⟩ prog_2_method_6_code 3 (some .int), Cond.methodLink "StageMachine$Candles" 33 ⟨"StageMachine$Candles", "leastLeft", "()I"⟩, Cond.privateMethod ⟨"StageMachine$Candles", "leastLeft", "()I"⟩]
def ch_4_10 : List Cond := [Cond.instanceMethod ⟨"StageMachine$Candles", "leastLeft", "()I"⟩, Cond.code ⟨"StageMachine$Candles", "leastLeft", "()I"⟩ prog_2_method_7_code 4 (some .int), Cond.methodLink "StageMachineLaw" 130 ⟨"StageMachine", "flat", "(II)I"⟩, Cond.instanceMethod ⟨"StageMachine", "flat", "(II)I"⟩, Cond.selects "StageMachine" ⟨"StageMachine", "flat", "(II)I"⟩ ⟨"StageMachine", "flat", "(II)I"⟩, Cond.code ⟨"StageMachine", "flat", "(II)I"⟩ prog_1_method_30_code 3 (some .int), Cond.methodLink "StageMachine" 180 ⟨"StageMachine$Stock", "addFlat", "(II)I"⟩, Cond.instanceMethod ⟨"StageMachine$Stock", "addFlat", "(II)I"⟩, Cond.selects "StageMachine$Stock" ⟨"StageMachine$Stock", "addFlat", "(II)I"⟩ ⟨"StageMachine$Stock", "addFlat", "(II)I"⟩, Cond.code ⟨"StageMachine$Stock", "addFlat", "(II)I"⟩ prog_8_method_2_code 3 (some .int), Cond.methodLink "StageMachine$Stock" 27 ⟨"StageMachine$Stock", "isPanel", "(II)Z"⟩, Cond.static ⟨"StageMachine$Stock", "isPanel", "(II)Z"⟩, Cond.code ⟨"StageMachine$Stock", "isPanel", "(II)Z"⟩ prog_8_method_4_code 2 (some .boolean), Cond.methodLinkNest "StageMachine$Stock" 41 ⟨"StageMachine", "isWithin", "(III)Z"⟩ "StageMachine", Cond.instantiable "StageMachine$Panel" 3, Cond.methodLink "StageMachine$Stock" 35 ⟨"StageMachine$Panel", "<init>", "(II)V"⟩]
def ch_4_11 : List Cond := [Cond.instanceMethod ⟨"StageMachine$Panel", "<init>", "(II)V"⟩, Cond.code ⟨"StageMachine$Panel", "<init>", "(II)V"⟩ prog_5_method_1_code 3 none, Cond.methodLink "StageMachine$Panel" 1 ⟨"java/lang/Object", "<init>", "()V"⟩, Cond.fieldLink "StageMachine$Panel" 7 "StageMachine$Panel" "height" "I", Cond.fieldLink "StageMachine$Panel" 13 "StageMachine$Panel" "width" "I", Cond.fieldLink "StageMachine$Panel" 16 "StageMachine$Panel" "paint" "I", Cond.laysFinal "StageMachine$Panel" "StageMachine$Panel" "height" "I", Cond.soleField "StageMachine$Panel" "height", Cond.laysFinal "StageMachine$Panel" "StageMachine$Panel" "width" "I", Cond.soleField "StageMachine$Panel" "width", Cond.laysFinal "StageMachine$Panel" "StageMachine$Panel" "paint" "I", Cond.soleField "StageMachine$Panel" "paint", Cond.superclass "StageMachine$Panel" "java/lang/Object", Cond.methodLink "StageMachineLaw" 134 ⟨"StageMachine", "want", "(II)I"⟩, Cond.instanceMethod ⟨"StageMachine", "want", "(II)I"⟩, Cond.selects "StageMachine" ⟨"StageMachine", "want", "(II)I"⟩ ⟨"StageMachine", "want", "(II)I"⟩]
def ch_4_12 : List Cond := [Cond.code ⟨"StageMachine", "want", "(II)I"⟩ prog_1_method_31_code 3 (some .int), Cond.methodLink "StageMachine" 183 ⟨"StageMachine$Stock", "addWant", "(II)I"⟩, Cond.instanceMethod ⟨"StageMachine$Stock", "addWant", "(II)I"⟩, Cond.selects "StageMachine$Stock" ⟨"StageMachine$Stock", "addWant", "(II)I"⟩ ⟨"StageMachine$Stock", "addWant", "(II)I"⟩, Cond.code ⟨"StageMachine$Stock", "addWant", "(II)I"⟩ prog_8_method_3_code 3 (some .int), Cond.methodLink "StageMachineLaw" 138 ⟨"StageMachine", "paint", "()I"⟩, Cond.instanceMethod ⟨"StageMachine", "paint", "()I"⟩, Cond.selects "StageMachine" ⟨"StageMachine", "paint", "()I"⟩ ⟨"StageMachine", "paint", "()I"⟩, Cond.code ⟨"StageMachine", "paint", "()I"⟩ prog_1_method_32_code 1 (some .int), Cond.methodLink "StageMachine" 186 ⟨"StageMachine$Stock", "leastPainting", "()I"⟩, Cond.instanceMethod ⟨"StageMachine$Stock", "leastPainting", "()I"⟩, Cond.selects "StageMachine$Stock" ⟨"StageMachine$Stock", "leastPainting", "()I"⟩ ⟨"StageMachine$Stock", "leastPainting", "()I"⟩, Cond.code ⟨"StageMachine$Stock", "leastPainting", "()I"⟩ prog_8_method_5_code 2 (some .int), Cond.constant "StageMachine$Stock" 45 (1000000), Cond.methodLink "StageMachine$Stock" 46 ⟨"StageMachine$Stock", "leastSum", "()I"⟩, Cond.privateMethod ⟨"StageMachine$Stock", "leastSum", "()I"⟩]
def ch_4_13 : List Cond := [Cond.instanceMethod ⟨"StageMachine$Stock", "leastSum", "()I"⟩, Cond.code ⟨"StageMachine$Stock", "leastSum", "()I"⟩ prog_8_method_6_code 3 (some .int), Cond.methodLink "StageMachine$Stock" 53 ⟨"java/lang/Integer", "bitCount", "(I)I"⟩, Cond.static ⟨"java/lang/Integer", "bitCount", "(I)I"⟩, Cond.code ⟨"java/lang/Integer", "bitCount", "(I)I"⟩ prog_15_method_49_code 1 (some .int), Cond.constant "java/lang/Integer" 265 (1431655765), Cond.constant "java/lang/Integer" 266 (858993459), Cond.constant "java/lang/Integer" 267 (252645135), Cond.methodLink "StageMachine$Stock" 59 ⟨"StageMachine$Stock", "leastSumBehind", "(ILStageMachine$Panel;)I"⟩, Cond.privateMethod ⟨"StageMachine$Stock", "leastSumBehind", "(ILStageMachine$Panel;)I"⟩, Cond.instanceMethod ⟨"StageMachine$Stock", "leastSumBehind", "(ILStageMachine$Panel;)I"⟩, Cond.code ⟨"StageMachine$Stock", "leastSumBehind", "(ILStageMachine$Panel;)I"⟩ prog_8_method_7_code 5 (some .int), Cond.methodLink "StageMachine$Stock" 63 ⟨"StageMachine$Stock", "sumWith", "(IILStageMachine$Panel;)I"⟩, Cond.privateMethod ⟨"StageMachine$Stock", "sumWith", "(IILStageMachine$Panel;)I"⟩, Cond.instanceMethod ⟨"StageMachine$Stock", "sumWith", "(IILStageMachine$Panel;)I"⟩, Cond.code ⟨"StageMachine$Stock", "sumWith", "(IILStageMachine$Panel;)I"⟩ prog_8_method_8_code 5 (some .int)]
def ch_4_14 : List Cond := [Cond.methodLink "StageMachine$Stock" 73 ⟨"StageMachine$Panel", "serves", "(LStageMachine$Panel;)Z"⟩, Cond.instanceMethod ⟨"StageMachine$Panel", "serves", "(LStageMachine$Panel;)Z"⟩, Cond.selects "StageMachine$Panel" ⟨"StageMachine$Panel", "serves", "(LStageMachine$Panel;)Z"⟩ ⟨"StageMachine$Panel", "serves", "(LStageMachine$Panel;)Z"⟩, Cond.code ⟨"StageMachine$Panel", "serves", "(LStageMachine$Panel;)Z"⟩ prog_5_method_3_code 2 (some .boolean), Cond.methodLink "StageMachine$Stock" 77 ⟨"StageMachine$Panel", "priceFor", "(LStageMachine$Panel;)I"⟩, Cond.instanceMethod ⟨"StageMachine$Panel", "priceFor", "(LStageMachine$Panel;)I"⟩, Cond.selects "StageMachine$Panel" ⟨"StageMachine$Panel", "priceFor", "(LStageMachine$Panel;)I"⟩ ⟨"StageMachine$Panel", "priceFor", "(LStageMachine$Panel;)I"⟩, Cond.code ⟨"StageMachine$Panel", "priceFor", "(LStageMachine$Panel;)I"⟩ prog_5_method_4_code 3 (some .int), Cond.methodLink "StageMachine$Panel" 19 ⟨"StageMachine$Panel", "area", "()I"⟩, Cond.instanceMethod ⟨"StageMachine$Panel", "area", "()I"⟩, Cond.selects "StageMachine$Panel" ⟨"StageMachine$Panel", "area", "()I"⟩ ⟨"StageMachine$Panel", "area", "()I"⟩, Cond.code ⟨"StageMachine$Panel", "area", "()I"⟩ prog_5_method_2_code 1 (some .int), Cond.methodLink "StageMachine$Stock" 67 ⟨"java/lang/Math", "min", "(II)I"⟩, Cond.methodLink "StageMachine$Stock" 50 ⟨"StageMachine$Stock", "give", "()V"⟩, Cond.privateMethod ⟨"StageMachine$Stock", "give", "()V"⟩, Cond.instanceMethod ⟨"StageMachine$Stock", "give", "()V"⟩]
set_option maxRecDepth 30000 in
theorem tc_4 : tables_1_4 = ch_4_0 ++ (ch_4_1 ++ (ch_4_2 ++ (ch_4_3 ++ (ch_4_4 ++ (ch_4_5 ++ (ch_4_6 ++ (ch_4_7 ++ (ch_4_8 ++ (ch_4_9 ++ (ch_4_10 ++ (ch_4_11 ++ (ch_4_12 ++ (ch_4_13 ++ (ch_4_14)))))))))))))) := rfl
theorem tm_4 {w : Cond} (h1 : w ∈ tables_1_4) : w ∈ tables_1 := List.mem_append_right _ (List.mem_append_right _ (List.mem_append_right _ (List.mem_append_left _ h1)))
theorem tb_4_0 {i : Nat} {w : Cond} (h : ch_4_0[i]? = some w) : w ∈ tables_1 := by
  have h1 := List.mem_of_getElem? h
  refine tm_4 ?_
  rw [tc_4]
  exact List.mem_append_left _ h1
theorem tb_4_1 {i : Nat} {w : Cond} (h : ch_4_1[i]? = some w) : w ∈ tables_1 := by
  have h1 := List.mem_of_getElem? h
  refine tm_4 ?_
  rw [tc_4]
  exact List.mem_append_right _ (List.mem_append_left _ h1)
theorem tb_4_2 {i : Nat} {w : Cond} (h : ch_4_2[i]? = some w) : w ∈ tables_1 := by
  have h1 := List.mem_of_getElem? h
  refine tm_4 ?_
  rw [tc_4]
  exact List.mem_append_right _ (List.mem_append_right _ (List.mem_append_left _ h1))
theorem tb_4_3 {i : Nat} {w : Cond} (h : ch_4_3[i]? = some w) : w ∈ tables_1 := by
  have h1 := List.mem_of_getElem? h
  refine tm_4 ?_
  rw [tc_4]
  exact List.mem_append_right _ (List.mem_append_right _ (List.mem_append_right _ (List.mem_append_left _ h1)))
theorem tb_4_4 {i : Nat} {w : Cond} (h : ch_4_4[i]? = some w) : w ∈ tables_1 := by
  have h1 := List.mem_of_getElem? h
  refine tm_4 ?_
  rw [tc_4]
  exact List.mem_append_right _ (List.mem_append_right _ (List.mem_append_right _ (List.mem_append_right _ (List.mem_append_left _ h1))))
theorem tb_4_5 {i : Nat} {w : Cond} (h : ch_4_5[i]? = some w) : w ∈ tables_1 := by
  have h1 := List.mem_of_getElem? h
  refine tm_4 ?_
  rw [tc_4]
  exact List.mem_append_right _ (List.mem_append_right _ (List.mem_append_right _ (List.mem_append_right _ (List.mem_append_right _ (List.mem_append_left _ h1)))))
theorem tb_4_6 {i : Nat} {w : Cond} (h : ch_4_6[i]? = some w) : w ∈ tables_1 := by
  have h1 := List.mem_of_getElem? h
  refine tm_4 ?_
  rw [tc_4]
  exact List.mem_append_right _ (List.mem_append_right _ (List.mem_append_right _ (List.mem_append_right _ (List.mem_append_right _ (List.mem_append_right _ (List.mem_append_left _ h1))))))
theorem tb_4_7 {i : Nat} {w : Cond} (h : ch_4_7[i]? = some w) : w ∈ tables_1 := by
  have h1 := List.mem_of_getElem? h
  refine tm_4 ?_
  rw [tc_4]
  exact List.mem_append_right _ (List.mem_append_right _ (List.mem_append_right _ (List.mem_append_right _ (List.mem_append_right _ (List.mem_append_right _ (List.mem_append_right _ (List.mem_append_left _ h1)))))))
theorem tb_4_8 {i : Nat} {w : Cond} (h : ch_4_8[i]? = some w) : w ∈ tables_1 := by
  have h1 := List.mem_of_getElem? h
  refine tm_4 ?_
  rw [tc_4]
  exact List.mem_append_right _ (List.mem_append_right _ (List.mem_append_right _ (List.mem_append_right _ (List.mem_append_right _ (List.mem_append_right _ (List.mem_append_right _ (List.mem_append_right _ (List.mem_append_left _ h1))))))))
theorem tb_4_9 {i : Nat} {w : Cond} (h : ch_4_9[i]? = some w) : w ∈ tables_1 := by
  have h1 := List.mem_of_getElem? h
  refine tm_4 ?_
  rw [tc_4]
  exact List.mem_append_right _ (List.mem_append_right _ (List.mem_append_right _ (List.mem_append_right _ (List.mem_append_right _ (List.mem_append_right _ (List.mem_append_right _ (List.mem_append_right _ (List.mem_append_right _ (List.mem_append_left _ h1)))))))))
theorem tb_4_10 {i : Nat} {w : Cond} (h : ch_4_10[i]? = some w) : w ∈ tables_1 := by
  have h1 := List.mem_of_getElem? h
  refine tm_4 ?_
  rw [tc_4]
  exact List.mem_append_right _ (List.mem_append_right _ (List.mem_append_right _ (List.mem_append_right _ (List.mem_append_right _ (List.mem_append_right _ (List.mem_append_right _ (List.mem_append_right _ (List.mem_append_right _ (List.mem_append_right _ (List.mem_append_left _ h1))))))))))
theorem tb_4_11 {i : Nat} {w : Cond} (h : ch_4_11[i]? = some w) : w ∈ tables_1 := by
  have h1 := List.mem_of_getElem? h
  refine tm_4 ?_
  rw [tc_4]
  exact List.mem_append_right _ (List.mem_append_right _ (List.mem_append_right _ (List.mem_append_right _ (List.mem_append_right _ (List.mem_append_right _ (List.mem_append_right _ (List.mem_append_right _ (List.mem_append_right _ (List.mem_append_right _ (List.mem_append_right _ (List.mem_append_left _ h1)))))))))))
theorem tb_4_12 {i : Nat} {w : Cond} (h : ch_4_12[i]? = some w) : w ∈ tables_1 := by
  have h1 := List.mem_of_getElem? h
  refine tm_4 ?_
  rw [tc_4]
  exact List.mem_append_right _ (List.mem_append_right _ (List.mem_append_right _ (List.mem_append_right _ (List.mem_append_right _ (List.mem_append_right _ (List.mem_append_right _ (List.mem_append_right _ (List.mem_append_right _ (List.mem_append_right _ (List.mem_append_right _ (List.mem_append_right _ (List.mem_append_left _ h1))))))))))))
theorem tb_4_13 {i : Nat} {w : Cond} (h : ch_4_13[i]? = some w) : w ∈ tables_1 := by
  have h1 := List.mem_of_getElem? h
  refine tm_4 ?_
  rw [tc_4]
  exact List.mem_append_right _ (List.mem_append_right _ (List.mem_append_right _ (List.mem_append_right _ (List.mem_append_right _ (List.mem_append_right _ (List.mem_append_right _ (List.mem_append_right _ (List.mem_append_right _ (List.mem_append_right _ (List.mem_append_right _ (List.mem_append_right _ (List.mem_append_right _ (List.mem_append_left _ h1)))))))))))))
theorem tb_4_14 {i : Nat} {w : Cond} (h : ch_4_14[i]? = some w) : w ∈ tables_1 := by
  have h1 := List.mem_of_getElem? h
  refine tm_4 ?_
  rw [tc_4]
  exact List.mem_append_right _ (List.mem_append_right _ (List.mem_append_right _ (List.mem_append_right _ (List.mem_append_right _ (List.mem_append_right _ (List.mem_append_right _ (List.mem_append_right _ (List.mem_append_right _ (List.mem_append_right _ (List.mem_append_right _ (List.mem_append_right _ (List.mem_append_right _ (List.mem_append_right _ (h1))))))))))))))
def ch_5_0 : List Cond := [Cond.code ⟨"StageMachine$Stock", "give", "()V"⟩ prog_8_method_9_code 4 none, Cond.methodLink "StageMachineLaw" 142 ⟨"StageMachine", "given", "(I)I"⟩, Cond.instanceMethod ⟨"StageMachine", "given", "(I)I"⟩, Cond.selects "StageMachine" ⟨"StageMachine", "given", "(I)I"⟩ ⟨"StageMachine", "given", "(I)I"⟩, Cond.code ⟨"StageMachine", "given", "(I)I"⟩ prog_1_method_33_code 2 (some .int), Cond.methodLink "StageMachine" 189 ⟨"StageMachine$Stock", "givenTo", "(I)I"⟩, Cond.instanceMethod ⟨"StageMachine$Stock", "givenTo", "(I)I"⟩, Cond.selects "StageMachine$Stock" ⟨"StageMachine$Stock", "givenTo", "(I)I"⟩ ⟨"StageMachine$Stock", "givenTo", "(I)I"⟩, Cond.code ⟨"StageMachine$Stock", "givenTo", "(I)I"⟩ prog_8_method_10_code 2 (some .int), Cond.methodLink "StageMachineLaw" 146 ⟨"StageMachine", "count", "(I)I"⟩, Cond.instanceMethod ⟨"StageMachine", "count", "(I)I"⟩, Cond.selects "StageMachine" ⟨"StageMachine", "count", "(I)I"⟩ ⟨"StageMachine", "count", "(I)I"⟩, Cond.code ⟨"StageMachine", "count", "(I)I"⟩ prog_1_method_34_code 2 (some .int), Cond.methodLink "StageMachine" 201 ⟨"StageMachine$Stage", "tiedCount", "()I"⟩, Cond.instanceMethod ⟨"StageMachine$Stage", "tiedCount", "()I"⟩, Cond.selects "StageMachine$Stage" ⟨"StageMachine$Stage", "tiedCount", "()I"⟩ ⟨"StageMachine$Stage", "tiedCount", "()I"⟩]
def ch_5_1 : List Cond := [Cond.code ⟨"StageMachine$Stage", "tiedCount", "()I"⟩ prog_7_method_12_code 3 (some .int), Cond.classLink "StageMachineLaw" 10 "StageMachineModel", Cond.instantiable "StageMachineModel" 65, Cond.methodLink "StageMachineLaw" 12 ⟨"StageMachineModel", "<init>", "()V"⟩, Cond.instanceMethod ⟨"StageMachineModel", "<init>", "()V"⟩, Cond.code ⟨"StageMachineModel", "<init>", "()V"⟩ prog_14_method_1_code 1 none, Cond.methodLink "StageMachineModel" 1 ⟨"java/lang/Object", "<init>", "()V"⟩, Cond.constant "StageMachineModel" 59 (99999), Cond.fieldLink "StageMachineModel" 146 "StageMachineModel" "things" "I", Cond.fieldLink "StageMachineModel" 7 "StageMachineModel" "lane" "[I", Cond.fieldLink "StageMachineModel" 13 "StageMachineModel" "width" "[I", Cond.fieldLink "StageMachineModel" 16 "StageMachineModel" "weightOf" "[I", Cond.fieldLink "StageMachineModel" 19 "StageMachineModel" "at" "[I", Cond.fieldLink "StageMachineModel" 22 "StageMachineModel" "least" "[I", Cond.fieldLink "StageMachineModel" 25 "StageMachineModel" "most" "[I", Cond.fieldLink "StageMachineModel" 28 "StageMachineModel" "atThen" "[I"]
def ch_5_2 : List Cond := [Cond.fieldLink "StageMachineModel" 156 "StageMachineModel" "drums" "I", Cond.fieldLink "StageMachineModel" 31 "StageMachineModel" "size" "[I", Cond.fieldLink "StageMachineModel" 153 "StageMachineModel" "ropes" "I", Cond.fieldLink "StageMachineModel" 34 "StageMachineModel" "ropeThing" "[I", Cond.fieldLink "StageMachineModel" 37 "StageMachineModel" "gear" "[I", Cond.fieldLink "StageMachineModel" 40 "StageMachineModel" "way" "[I", Cond.fieldLink "StageMachineModel" 43 "StageMachineModel" "holds" "[I", Cond.fieldLink "StageMachineModel" 46 "StageMachineModel" "drumOf" "[I", Cond.fieldLink "StageMachineModel" 49 "StageMachineModel" "done" "[I", Cond.fieldLink "StageMachineModel" 52 "StageMachineModel" "isGone" "[Z", Cond.fieldLink "StageMachineModel" 56 "StageMachineModel" "counter" "[I", Cond.fieldLink "StageMachineModel" 60 "StageMachineModel" "bound" "I", Cond.fieldLink "StageMachineModel" 211 "StageMachineModel" "shaft" "I", Cond.fieldLink "StageMachineModel" 214 "StageMachineModel" "wear" "I", Cond.fieldLink "StageMachineModel" 194 "StageMachineModel" "why" "I", Cond.fieldLink "StageMachineModel" 64 "StageMachineModel" "whyThing" "I"]
def ch_5_3 : List Cond := [Cond.fieldLink "StageMachineModel" 67 "StageMachineModel" "whyOther" "I", Cond.fieldLink "StageMachineModel" 70 "StageMachineModel" "catches" "[I", Cond.fieldLink "StageMachineModel" 73 "StageMachineModel" "catchAt" "[I", Cond.fieldLink "StageMachineModel" 76 "StageMachineModel" "scenes" "[I", Cond.fieldLink "StageMachineModel" 227 "StageMachineModel" "hasChange" "Z", Cond.fieldLink "StageMachineModel" 230 "StageMachineModel" "isNone" "Z", Cond.fieldLink "StageMachineModel" 79 "StageMachineModel" "toldRope" "[I", Cond.fieldLink "StageMachineModel" 82 "StageMachineModel" "toldDrum" "[I", Cond.fieldLink "StageMachineModel" 85 "StageMachineModel" "works" "[I", Cond.fieldLink "StageMachineModel" 233 "StageMachineModel" "toldMany" "I", Cond.fieldLink "StageMachineModel" 88 "StageMachineModel" "leastMen" "[I", Cond.fieldLink "StageMachineModel" 91 "StageMachineModel" "tape" "[B", Cond.fieldLink "StageMachineModel" 246 "StageMachineModel" "taped" "I", Cond.fieldLink "StageMachineModel" 249 "StageMachineModel" "here" "I", Cond.fieldLink "StageMachineModel" 258 "StageMachineModel" "lines" "I", Cond.fieldLink "StageMachineModel" 95 "StageMachineModel" "lineWhat" "[I"]
def ch_5_4 : List Cond := [Cond.fieldLink "StageMachineModel" 98 "StageMachineModel" "lineA" "[I", Cond.fieldLink "StageMachineModel" 101 "StageMachineModel" "lineB" "[I", Cond.fieldLink "StageMachineModel" 162 "StageMachineModel" "canBack" "Z", Cond.fieldLink "StageMachineModel" 104 "StageMachineModel" "keptAt" "[I", Cond.fieldLink "StageMachineModel" 107 "StageMachineModel" "keptThen" "[I", Cond.fieldLink "StageMachineModel" 110 "StageMachineModel" "keptDrum" "[I", Cond.fieldLink "StageMachineModel" 113 "StageMachineModel" "keptDone" "[I", Cond.fieldLink "StageMachineModel" 116 "StageMachineModel" "keptCounter" "[I", Cond.fieldLink "StageMachineModel" 265 "StageMachineModel" "keptShaft" "I", Cond.fieldLink "StageMachineModel" 268 "StageMachineModel" "keptWear" "I", Cond.fieldLink "StageMachineModel" 255 "StageMachineModel" "number" "I", Cond.fieldLink "StageMachineModel" 278 "StageMachineModel" "time" "I", Cond.fieldLink "StageMachineModel" 281 "StageMachineModel" "candles" "I", Cond.fieldLink "StageMachineModel" 119 "StageMachineModel" "burns" "[I", Cond.fieldLink "StageMachineModel" 122 "StageMachineModel" "litAt" "[I", Cond.fieldLink "StageMachineModel" 290 "StageMachineModel" "flats" "I"]
def ch_5_5 : List Cond := [Cond.fieldLink "StageMachineModel" 125 "StageMachineModel" "flatSize" "[I", Cond.fieldLink "StageMachineModel" 128 "StageMachineModel" "flatPaint" "[I", Cond.fieldLink "StageMachineModel" 293 "StageMachineModel" "wants" "I", Cond.fieldLink "StageMachineModel" 131 "StageMachineModel" "wantSize" "[I", Cond.fieldLink "StageMachineModel" 134 "StageMachineModel" "wantPaint" "[I", Cond.fieldLink "StageMachineModel" 137 "StageMachineModel" "trial" "[I", Cond.fieldLink "StageMachineModel" 308 "StageMachineModel" "givenMany" "I", Cond.fieldLink "StageMachineModel" 140 "StageMachineModel" "given" "[I", Cond.lays "StageMachineModel" "StageMachineModel" "code" "I", Cond.soleField "StageMachineModel" "code", Cond.lays "StageMachineModel" "StageMachineModel" "things" "I", Cond.soleField "StageMachineModel" "things", Cond.laysFinal "StageMachineModel" "StageMachineModel" "lane" "[I", Cond.soleField "StageMachineModel" "lane", Cond.laysFinal "StageMachineModel" "StageMachineModel" "width" "[I", Cond.soleField "StageMachineModel" "width"]
def ch_5_6 : List Cond := [Cond.laysFinal "StageMachineModel" "StageMachineModel" "weightOf" "[I", Cond.soleField "StageMachineModel" "weightOf", Cond.laysFinal "StageMachineModel" "StageMachineModel" "at" "[I", Cond.soleField "StageMachineModel" "at", Cond.laysFinal "StageMachineModel" "StageMachineModel" "least" "[I", Cond.soleField "StageMachineModel" "least", Cond.laysFinal "StageMachineModel" "StageMachineModel" "most" "[I", Cond.soleField "StageMachineModel" "most", Cond.laysFinal "StageMachineModel" "StageMachineModel" "atThen" "[I", Cond.soleField "StageMachineModel" "atThen", Cond.lays "StageMachineModel" "StageMachineModel" "drums" "I", Cond.soleField "StageMachineModel" "drums", Cond.laysFinal "StageMachineModel" "StageMachineModel" "size" "[I", Cond.soleField "StageMachineModel" "size", Cond.lays "StageMachineModel" "StageMachineModel" "ropes" "I", Cond.soleField "StageMachineModel" "ropes"]
def ch_5_7 : List Cond := [Cond.laysFinal "StageMachineModel" "StageMachineModel" "ropeThing" "[I", Cond.soleField "StageMachineModel" "ropeThing", Cond.laysFinal "StageMachineModel" "StageMachineModel" "gear" "[I", Cond.soleField "StageMachineModel" "gear", Cond.laysFinal "StageMachineModel" "StageMachineModel" "way" "[I", Cond.soleField "StageMachineModel" "way", Cond.laysFinal "StageMachineModel" "StageMachineModel" "holds" "[I", Cond.soleField "StageMachineModel" "holds", Cond.laysFinal "StageMachineModel" "StageMachineModel" "drumOf" "[I", Cond.soleField "StageMachineModel" "drumOf", Cond.laysFinal "StageMachineModel" "StageMachineModel" "done" "[I", Cond.soleField "StageMachineModel" "done", Cond.laysFinal "StageMachineModel" "StageMachineModel" "isGone" "[Z", Cond.soleField "StageMachineModel" "isGone", Cond.laysFinal "StageMachineModel" "StageMachineModel" "counter" "[I", Cond.soleField "StageMachineModel" "counter"]
def ch_5_8 : List Cond := [Cond.lays "StageMachineModel" "StageMachineModel" "bound" "I", Cond.soleField "StageMachineModel" "bound", Cond.lays "StageMachineModel" "StageMachineModel" "shaft" "I", Cond.soleField "StageMachineModel" "shaft", Cond.lays "StageMachineModel" "StageMachineModel" "wear" "I", Cond.soleField "StageMachineModel" "wear", Cond.lays "StageMachineModel" "StageMachineModel" "why" "I", Cond.soleField "StageMachineModel" "why", Cond.lays "StageMachineModel" "StageMachineModel" "whyThing" "I", Cond.soleField "StageMachineModel" "whyThing", Cond.lays "StageMachineModel" "StageMachineModel" "whyOther" "I", Cond.soleField "StageMachineModel" "whyOther", Cond.laysFinal "StageMachineModel" "StageMachineModel" "catches" "[I", Cond.soleField "StageMachineModel" "catches", Cond.laysFinal "StageMachineModel" "StageMachineModel" "catchAt" "[I", Cond.soleField "StageMachineModel" "catchAt"]
def ch_5_9 : List Cond := [Cond.laysFinal "StageMachineModel" "StageMachineModel" "scenes" "[I", Cond.soleField "StageMachineModel" "scenes", Cond.lays "StageMachineModel" "StageMachineModel" "hasChange" "Z", Cond.soleField "StageMachineModel" "hasChange", Cond.lays "StageMachineModel" "StageMachineModel" "isNone" "Z", Cond.soleField "StageMachineModel" "isNone", Cond.laysFinal "StageMachineModel" "StageMachineModel" "toldRope" "[I", Cond.soleField "StageMachineModel" "toldRope", Cond.laysFinal "StageMachineModel" "StageMachineModel" "toldDrum" "[I", Cond.soleField "StageMachineModel" "toldDrum", Cond.laysFinal "StageMachineModel" "StageMachineModel" "works" "[I", Cond.soleField "StageMachineModel" "works", Cond.lays "StageMachineModel" "StageMachineModel" "toldMany" "I", Cond.soleField "StageMachineModel" "toldMany", Cond.laysFinal "StageMachineModel" "StageMachineModel" "leastMen" "[I", Cond.soleField "StageMachineModel" "leastMen"]
def ch_5_10 : List Cond := [Cond.laysFinal "StageMachineModel" "StageMachineModel" "tape" "[B", Cond.soleField "StageMachineModel" "tape", Cond.lays "StageMachineModel" "StageMachineModel" "taped" "I", Cond.soleField "StageMachineModel" "taped", Cond.lays "StageMachineModel" "StageMachineModel" "here" "I", Cond.soleField "StageMachineModel" "here", Cond.lays "StageMachineModel" "StageMachineModel" "lines" "I", Cond.soleField "StageMachineModel" "lines", Cond.laysFinal "StageMachineModel" "StageMachineModel" "lineWhat" "[I", Cond.soleField "StageMachineModel" "lineWhat", Cond.laysFinal "StageMachineModel" "StageMachineModel" "lineA" "[I", Cond.soleField "StageMachineModel" "lineA", Cond.laysFinal "StageMachineModel" "StageMachineModel" "lineB" "[I", Cond.soleField "StageMachineModel" "lineB", Cond.lays "StageMachineModel" "StageMachineModel" "canBack" "Z", Cond.soleField "StageMachineModel" "canBack"]
def ch_5_11 : List Cond := [Cond.laysFinal "StageMachineModel" "StageMachineModel" "keptAt" "[I", Cond.soleField "StageMachineModel" "keptAt", Cond.laysFinal "StageMachineModel" "StageMachineModel" "keptThen" "[I", Cond.soleField "StageMachineModel" "keptThen", Cond.laysFinal "StageMachineModel" "StageMachineModel" "keptDrum" "[I", Cond.soleField "StageMachineModel" "keptDrum", Cond.laysFinal "StageMachineModel" "StageMachineModel" "keptDone" "[I", Cond.soleField "StageMachineModel" "keptDone", Cond.laysFinal "StageMachineModel" "StageMachineModel" "keptCounter" "[I", Cond.soleField "StageMachineModel" "keptCounter", Cond.lays "StageMachineModel" "StageMachineModel" "keptShaft" "I", Cond.soleField "StageMachineModel" "keptShaft", Cond.lays "StageMachineModel" "StageMachineModel" "keptWear" "I", Cond.soleField "StageMachineModel" "keptWear", Cond.lays "StageMachineModel" "StageMachineModel" "number" "I", Cond.soleField "StageMachineModel" "number"]
def ch_5_12 : List Cond := [Cond.lays "StageMachineModel" "StageMachineModel" "time" "I", Cond.soleField "StageMachineModel" "time", Cond.lays "StageMachineModel" "StageMachineModel" "candles" "I", Cond.soleField "StageMachineModel" "candles", Cond.laysFinal "StageMachineModel" "StageMachineModel" "burns" "[I", Cond.soleField "StageMachineModel" "burns", Cond.laysFinal "StageMachineModel" "StageMachineModel" "litAt" "[I", Cond.soleField "StageMachineModel" "litAt", Cond.lays "StageMachineModel" "StageMachineModel" "flats" "I", Cond.soleField "StageMachineModel" "flats", Cond.laysFinal "StageMachineModel" "StageMachineModel" "flatSize" "[I", Cond.soleField "StageMachineModel" "flatSize", Cond.laysFinal "StageMachineModel" "StageMachineModel" "flatPaint" "[I", Cond.soleField "StageMachineModel" "flatPaint", Cond.lays "StageMachineModel" "StageMachineModel" "wants" "I", Cond.soleField "StageMachineModel" "wants"]
def ch_5_13 : List Cond := [Cond.laysFinal "StageMachineModel" "StageMachineModel" "wantSize" "[I", Cond.soleField "StageMachineModel" "wantSize", Cond.laysFinal "StageMachineModel" "StageMachineModel" "wantPaint" "[I", Cond.soleField "StageMachineModel" "wantPaint", Cond.laysFinal "StageMachineModel" "StageMachineModel" "trial" "[I", Cond.soleField "StageMachineModel" "trial", Cond.lays "StageMachineModel" "StageMachineModel" "givenMany" "I", Cond.soleField "StageMachineModel" "givenMany", Cond.laysFinal "StageMachineModel" "StageMachineModel" "given" "[I", Cond.soleField "StageMachineModel" "given", Cond.superclass "StageMachineModel" "java/lang/Object", Cond.arrayClass FieldType.boolean, Cond.arrayClass FieldType.byte, Cond.methodLink "StageMachineLaw" 17 ⟨"StageMachineModel", "thing", "(IIII)I"⟩, Cond.instanceMethod ⟨"StageMachineModel", "thing", "(IIII)I"⟩, Cond.selects "StageMachineModel" ⟨"StageMachineModel", "thing", "(IIII)I"⟩ ⟨"StageMachineModel", "thing", "(IIII)I"⟩]
def ch_5_14 : List Cond := [Cond.code ⟨"StageMachineModel", "thing", "(IIII)I"⟩ prog_14_method_9_code 8 (some .int), Cond.methodLink "StageMachineModel" 149 ⟨"StageMachineModel", "in", "(III)Z"⟩, Cond.static ⟨"StageMachineModel", "in", "(III)Z"⟩, Cond.code ⟨"StageMachineModel", "in", "(III)Z"⟩ prog_14_method_3_code 3 (some .boolean), Cond.methodLink "StageMachineLaw" 22 ⟨"StageMachineModel", "ofThing", "(II)I"⟩, Cond.instanceMethod ⟨"StageMachineModel", "ofThing", "(II)I"⟩, Cond.selects "StageMachineModel" ⟨"StageMachineModel", "ofThing", "(II)I"⟩ ⟨"StageMachineModel", "ofThing", "(II)I"⟩, Cond.code ⟨"StageMachineModel", "ofThing", "(II)I"⟩ prog_14_method_11_code 3 (some .int), Cond.methodLink "StageMachineModel" 166 ⟨"StageMachineModel", "isThing", "(I)Z"⟩, Cond.privateMethod ⟨"StageMachineModel", "isThing", "(I)Z"⟩, Cond.instanceMethod ⟨"StageMachineModel", "isThing", "(I)Z"⟩, Cond.code ⟨"StageMachineModel", "isThing", "(I)Z"⟩ prog_14_method_4_code 2 (some .boolean), Cond.methodLink "StageMachineModel" 170 ⟨"StageMachineModel", "tiedTo", "(I)I"⟩, Cond.privateMethod ⟨"StageMachineModel", "tiedTo", "(I)I"⟩, Cond.instanceMethod ⟨"StageMachineModel", "tiedTo", "(I)I"⟩, Cond.code ⟨"StageMachineModel", "tiedTo", "(I)I"⟩ prog_14_method_10_code 3 (some .int)]
set_option maxRecDepth 30000 in
theorem tc_5 : tables_1_5 = ch_5_0 ++ (ch_5_1 ++ (ch_5_2 ++ (ch_5_3 ++ (ch_5_4 ++ (ch_5_5 ++ (ch_5_6 ++ (ch_5_7 ++ (ch_5_8 ++ (ch_5_9 ++ (ch_5_10 ++ (ch_5_11 ++ (ch_5_12 ++ (ch_5_13 ++ (ch_5_14)))))))))))))) := rfl
theorem tm_5 {w : Cond} (h1 : w ∈ tables_1_5) : w ∈ tables_1 := List.mem_append_right _ (List.mem_append_right _ (List.mem_append_right _ (List.mem_append_right _ (List.mem_append_left _ h1))))
theorem tb_5_0 {i : Nat} {w : Cond} (h : ch_5_0[i]? = some w) : w ∈ tables_1 := by
  have h1 := List.mem_of_getElem? h
  refine tm_5 ?_
  rw [tc_5]
  exact List.mem_append_left _ h1
theorem tb_5_1 {i : Nat} {w : Cond} (h : ch_5_1[i]? = some w) : w ∈ tables_1 := by
  have h1 := List.mem_of_getElem? h
  refine tm_5 ?_
  rw [tc_5]
  exact List.mem_append_right _ (List.mem_append_left _ h1)
theorem tb_5_2 {i : Nat} {w : Cond} (h : ch_5_2[i]? = some w) : w ∈ tables_1 := by
  have h1 := List.mem_of_getElem? h
  refine tm_5 ?_
  rw [tc_5]
  exact List.mem_append_right _ (List.mem_append_right _ (List.mem_append_left _ h1))
theorem tb_5_3 {i : Nat} {w : Cond} (h : ch_5_3[i]? = some w) : w ∈ tables_1 := by
  have h1 := List.mem_of_getElem? h
  refine tm_5 ?_
  rw [tc_5]
  exact List.mem_append_right _ (List.mem_append_right _ (List.mem_append_right _ (List.mem_append_left _ h1)))
theorem tb_5_4 {i : Nat} {w : Cond} (h : ch_5_4[i]? = some w) : w ∈ tables_1 := by
  have h1 := List.mem_of_getElem? h
  refine tm_5 ?_
  rw [tc_5]
  exact List.mem_append_right _ (List.mem_append_right _ (List.mem_append_right _ (List.mem_append_right _ (List.mem_append_left _ h1))))
theorem tb_5_5 {i : Nat} {w : Cond} (h : ch_5_5[i]? = some w) : w ∈ tables_1 := by
  have h1 := List.mem_of_getElem? h
  refine tm_5 ?_
  rw [tc_5]
  exact List.mem_append_right _ (List.mem_append_right _ (List.mem_append_right _ (List.mem_append_right _ (List.mem_append_right _ (List.mem_append_left _ h1)))))
theorem tb_5_6 {i : Nat} {w : Cond} (h : ch_5_6[i]? = some w) : w ∈ tables_1 := by
  have h1 := List.mem_of_getElem? h
  refine tm_5 ?_
  rw [tc_5]
  exact List.mem_append_right _ (List.mem_append_right _ (List.mem_append_right _ (List.mem_append_right _ (List.mem_append_right _ (List.mem_append_right _ (List.mem_append_left _ h1))))))
theorem tb_5_7 {i : Nat} {w : Cond} (h : ch_5_7[i]? = some w) : w ∈ tables_1 := by
  have h1 := List.mem_of_getElem? h
  refine tm_5 ?_
  rw [tc_5]
  exact List.mem_append_right _ (List.mem_append_right _ (List.mem_append_right _ (List.mem_append_right _ (List.mem_append_right _ (List.mem_append_right _ (List.mem_append_right _ (List.mem_append_left _ h1)))))))
theorem tb_5_8 {i : Nat} {w : Cond} (h : ch_5_8[i]? = some w) : w ∈ tables_1 := by
  have h1 := List.mem_of_getElem? h
  refine tm_5 ?_
  rw [tc_5]
  exact List.mem_append_right _ (List.mem_append_right _ (List.mem_append_right _ (List.mem_append_right _ (List.mem_append_right _ (List.mem_append_right _ (List.mem_append_right _ (List.mem_append_right _ (List.mem_append_left _ h1))))))))
theorem tb_5_9 {i : Nat} {w : Cond} (h : ch_5_9[i]? = some w) : w ∈ tables_1 := by
  have h1 := List.mem_of_getElem? h
  refine tm_5 ?_
  rw [tc_5]
  exact List.mem_append_right _ (List.mem_append_right _ (List.mem_append_right _ (List.mem_append_right _ (List.mem_append_right _ (List.mem_append_right _ (List.mem_append_right _ (List.mem_append_right _ (List.mem_append_right _ (List.mem_append_left _ h1)))))))))
theorem tb_5_10 {i : Nat} {w : Cond} (h : ch_5_10[i]? = some w) : w ∈ tables_1 := by
  have h1 := List.mem_of_getElem? h
  refine tm_5 ?_
  rw [tc_5]
  exact List.mem_append_right _ (List.mem_append_right _ (List.mem_append_right _ (List.mem_append_right _ (List.mem_append_right _ (List.mem_append_right _ (List.mem_append_right _ (List.mem_append_right _ (List.mem_append_right _ (List.mem_append_right _ (List.mem_append_left _ h1))))))))))
theorem tb_5_11 {i : Nat} {w : Cond} (h : ch_5_11[i]? = some w) : w ∈ tables_1 := by
  have h1 := List.mem_of_getElem? h
  refine tm_5 ?_
  rw [tc_5]
  exact List.mem_append_right _ (List.mem_append_right _ (List.mem_append_right _ (List.mem_append_right _ (List.mem_append_right _ (List.mem_append_right _ (List.mem_append_right _ (List.mem_append_right _ (List.mem_append_right _ (List.mem_append_right _ (List.mem_append_right _ (List.mem_append_left _ h1)))))))))))
theorem tb_5_12 {i : Nat} {w : Cond} (h : ch_5_12[i]? = some w) : w ∈ tables_1 := by
  have h1 := List.mem_of_getElem? h
  refine tm_5 ?_
  rw [tc_5]
  exact List.mem_append_right _ (List.mem_append_right _ (List.mem_append_right _ (List.mem_append_right _ (List.mem_append_right _ (List.mem_append_right _ (List.mem_append_right _ (List.mem_append_right _ (List.mem_append_right _ (List.mem_append_right _ (List.mem_append_right _ (List.mem_append_right _ (List.mem_append_left _ h1))))))))))))
theorem tb_5_13 {i : Nat} {w : Cond} (h : ch_5_13[i]? = some w) : w ∈ tables_1 := by
  have h1 := List.mem_of_getElem? h
  refine tm_5 ?_
  rw [tc_5]
  exact List.mem_append_right _ (List.mem_append_right _ (List.mem_append_right _ (List.mem_append_right _ (List.mem_append_right _ (List.mem_append_right _ (List.mem_append_right _ (List.mem_append_right _ (List.mem_append_right _ (List.mem_append_right _ (List.mem_append_right _ (List.mem_append_right _ (List.mem_append_right _ (List.mem_append_left _ h1)))))))))))))
theorem tb_5_14 {i : Nat} {w : Cond} (h : ch_5_14[i]? = some w) : w ∈ tables_1 := by
  have h1 := List.mem_of_getElem? h
  refine tm_5 ?_
  rw [tc_5]
  exact List.mem_append_right _ (List.mem_append_right _ (List.mem_append_right _ (List.mem_append_right _ (List.mem_append_right _ (List.mem_append_right _ (List.mem_append_right _ (List.mem_append_right _ (List.mem_append_right _ (List.mem_append_right _ (List.mem_append_right _ (List.mem_append_right _ (List.mem_append_right _ (List.mem_append_right _ (h1))))))))))))))
def ch_6_0 : List Cond := [Cond.methodLink "StageMachineLaw" 27 ⟨"StageMachineModel", "on", "(I)I"⟩, Cond.instanceMethod ⟨"StageMachineModel", "on", "(I)I"⟩, Cond.selects "StageMachineModel" ⟨"StageMachineModel", "on", "(I)I"⟩ ⟨"StageMachineModel", "on", "(I)I"⟩, Cond.code ⟨"StageMachineModel", "on", "(I)I"⟩ prog_14_method_12_code 3 (some .int), Cond.methodLink "StageMachineLaw" 31 ⟨"StageMachineModel", "drum", "(I)I"⟩, Cond.instanceMethod ⟨"StageMachineModel", "drum", "(I)I"⟩, Cond.selects "StageMachineModel" ⟨"StageMachineModel", "drum", "(I)I"⟩ ⟨"StageMachineModel", "drum", "(I)I"⟩, Cond.code ⟨"StageMachineModel", "drum", "(I)I"⟩ prog_14_method_13_code 2 (some .int), Cond.methodLink "StageMachineLaw" 36 ⟨"StageMachineModel", "rope", "(III)I"⟩, Cond.instanceMethod ⟨"StageMachineModel", "rope", "(III)I"⟩, Cond.selects "StageMachineModel" ⟨"StageMachineModel", "rope", "(III)I"⟩ ⟨"StageMachineModel", "rope", "(III)I"⟩, Cond.code ⟨"StageMachineModel", "rope", "(III)I"⟩ prog_14_method_14_code 4 (some .int), Cond.methodLink "StageMachineLaw" 40 ⟨"StageMachineModel", "ofRope", "(II)I"⟩, Cond.instanceMethod ⟨"StageMachineModel", "ofRope", "(II)I"⟩, Cond.selects "StageMachineModel" ⟨"StageMachineModel", "ofRope", "(II)I"⟩ ⟨"StageMachineModel", "ofRope", "(II)I"⟩, Cond.code ⟨"StageMachineModel", "ofRope", "(II)I"⟩ prog_14_method_16_code 3 (some .int)]
def ch_6_1 : List Cond := [Cond.methodLink "StageMachineModel" 174 ⟨"StageMachineModel", "isRope", "(I)Z"⟩, Cond.privateMethod ⟨"StageMachineModel", "isRope", "(I)Z"⟩, Cond.instanceMethod ⟨"StageMachineModel", "isRope", "(I)Z"⟩, Cond.code ⟨"StageMachineModel", "isRope", "(I)Z"⟩ prog_14_method_5_code 2 (some .boolean), Cond.constant "StageMachineModel" 177 (-2000000000), Cond.methodLink "StageMachineModel" 178 ⟨"StageMachineModel", "load", "(I)I"⟩, Cond.privateMethod ⟨"StageMachineModel", "load", "(I)I"⟩, Cond.instanceMethod ⟨"StageMachineModel", "load", "(I)I"⟩, Cond.code ⟨"StageMachineModel", "load", "(I)I"⟩ prog_14_method_15_code 2 (some .int), Cond.methodLink "StageMachineLaw" 44 ⟨"StageMachineModel", "tie", "(II)I"⟩, Cond.instanceMethod ⟨"StageMachineModel", "tie", "(II)I"⟩, Cond.selects "StageMachineModel" ⟨"StageMachineModel", "tie", "(II)I"⟩ ⟨"StageMachineModel", "tie", "(II)I"⟩, Cond.code ⟨"StageMachineModel", "tie", "(II)I"⟩ prog_14_method_18_code 4 (some .int), Cond.methodLink "StageMachineModel" 184 ⟨"StageMachineModel", "tieNow", "(II)I"⟩, Cond.privateMethod ⟨"StageMachineModel", "tieNow", "(II)I"⟩, Cond.instanceMethod ⟨"StageMachineModel", "tieNow", "(II)I"⟩]
def ch_6_2 : List Cond := [Cond.code ⟨"StageMachineModel", "tieNow", "(II)I"⟩ prog_14_method_17_code 3 (some .int), Cond.methodLink "StageMachineModel" 181 ⟨"StageMachineModel", "isDrum", "(I)Z"⟩, Cond.privateMethod ⟨"StageMachineModel", "isDrum", "(I)Z"⟩, Cond.instanceMethod ⟨"StageMachineModel", "isDrum", "(I)Z"⟩, Cond.code ⟨"StageMachineModel", "isDrum", "(I)Z"⟩ prog_14_method_6_code 2 (some .boolean), Cond.methodLink "StageMachineLaw" 48 ⟨"StageMachineModel", "untie", "(I)I"⟩, Cond.instanceMethod ⟨"StageMachineModel", "untie", "(I)I"⟩, Cond.selects "StageMachineModel" ⟨"StageMachineModel", "untie", "(I)I"⟩ ⟨"StageMachineModel", "untie", "(I)I"⟩, Cond.code ⟨"StageMachineModel", "untie", "(I)I"⟩ prog_14_method_20_code 3 (some .int), Cond.methodLink "StageMachineModel" 188 ⟨"StageMachineModel", "untieNow", "(I)I"⟩, Cond.privateMethod ⟨"StageMachineModel", "untieNow", "(I)I"⟩, Cond.instanceMethod ⟨"StageMachineModel", "untieNow", "(I)I"⟩, Cond.code ⟨"StageMachineModel", "untieNow", "(I)I"⟩ prog_14_method_19_code 2 (some .int), Cond.methodLink "StageMachineLaw" 52 ⟨"StageMachineModel", "weight", "(II)I"⟩, Cond.instanceMethod ⟨"StageMachineModel", "weight", "(II)I"⟩, Cond.selects "StageMachineModel" ⟨"StageMachineModel", "weight", "(II)I"⟩ ⟨"StageMachineModel", "weight", "(II)I"⟩]
def ch_6_3 : List Cond := [Cond.code ⟨"StageMachineModel", "weight", "(II)I"⟩ prog_14_method_22_code 4 (some .int), Cond.methodLink "StageMachineModel" 191 ⟨"StageMachineModel", "weighNow", "(II)I"⟩, Cond.privateMethod ⟨"StageMachineModel", "weighNow", "(II)I"⟩, Cond.instanceMethod ⟨"StageMachineModel", "weighNow", "(II)I"⟩, Cond.code ⟨"StageMachineModel", "weighNow", "(II)I"⟩ prog_14_method_21_code 4 (some .int), Cond.methodLink "StageMachineLaw" 56 ⟨"StageMachineModel", "bound", "(I)I"⟩, Cond.instanceMethod ⟨"StageMachineModel", "bound", "(I)I"⟩, Cond.selects "StageMachineModel" ⟨"StageMachineModel", "bound", "(I)I"⟩ ⟨"StageMachineModel", "bound", "(I)I"⟩, Cond.code ⟨"StageMachineModel", "bound", "(I)I"⟩ prog_14_method_23_code 3 (some .int), Cond.methodLink "StageMachineLaw" 61 ⟨"StageMachineModel", "pull", "()I"⟩, Cond.instanceMethod ⟨"StageMachineModel", "pull", "()I"⟩, Cond.selects "StageMachineModel" ⟨"StageMachineModel", "pull", "()I"⟩ ⟨"StageMachineModel", "pull", "()I"⟩, Cond.code ⟨"StageMachineModel", "pull", "()I"⟩ prog_14_method_24_code 4 (some .int), Cond.methodLink "StageMachineLaw" 65 ⟨"StageMachineModel", "turn", "(I)I"⟩, Cond.instanceMethod ⟨"StageMachineModel", "turn", "(I)I"⟩, Cond.selects "StageMachineModel" ⟨"StageMachineModel", "turn", "(I)I"⟩ ⟨"StageMachineModel", "turn", "(I)I"⟩]
def ch_6_4 : List Cond := [Cond.code ⟨"StageMachineModel", "turn", "(I)I"⟩ prog_14_method_29_code 3 (some .int), Cond.methodLink "StageMachineModel" 217 ⟨"StageMachineModel", "isTurn", "(I)Z"⟩, Cond.static ⟨"StageMachineModel", "isTurn", "(I)Z"⟩, Cond.code ⟨"StageMachineModel", "isTurn", "(I)Z"⟩ prog_14_method_28_code 1 (some .boolean), Cond.methodLink "StageMachineModel" 220 ⟨"StageMachineModel", "turnNow", "(I)I"⟩, Cond.privateMethod ⟨"StageMachineModel", "turnNow", "(I)I"⟩, Cond.instanceMethod ⟨"StageMachineModel", "turnNow", "(I)I"⟩, Cond.code ⟨"StageMachineModel", "turnNow", "(I)I"⟩ prog_14_method_27_code 5 (some .int), Cond.methodLink "StageMachineModel" 204 ⟨"StageMachineModel", "place", "(I)V"⟩, Cond.privateMethod ⟨"StageMachineModel", "place", "(I)V"⟩, Cond.instanceMethod ⟨"StageMachineModel", "place", "(I)V"⟩, Cond.code ⟨"StageMachineModel", "place", "(I)V"⟩ prog_14_method_25_code 4 none, Cond.methodLink "StageMachineModel" 208 ⟨"StageMachineModel", "find", "()V"⟩, Cond.privateMethod ⟨"StageMachineModel", "find", "()V"⟩, Cond.instanceMethod ⟨"StageMachineModel", "find", "()V"⟩, Cond.code ⟨"StageMachineModel", "find", "()V"⟩ prog_14_method_26_code 2 none]
def ch_6_5 : List Cond := [Cond.methodLink "StageMachineModel" 197 ⟨"StageMachineModel", "other", "(II)I"⟩, Cond.privateMethod ⟨"StageMachineModel", "other", "(II)I"⟩, Cond.instanceMethod ⟨"StageMachineModel", "other", "(II)I"⟩, Cond.code ⟨"StageMachineModel", "other", "(II)I"⟩ prog_14_method_8_code 4 (some .int), Cond.methodLink "StageMachineModel" 159 ⟨"StageMachineModel", "meets", "(III)Z"⟩, Cond.privateMethod ⟨"StageMachineModel", "meets", "(III)Z"⟩, Cond.instanceMethod ⟨"StageMachineModel", "meets", "(III)Z"⟩, Cond.code ⟨"StageMachineModel", "meets", "(III)Z"⟩ prog_14_method_7_code 4 (some .boolean), Cond.methodLink "StageMachineModel" 200 ⟨"StageMachineModel", "pull", "()I"⟩, Cond.methodLink "StageMachineLaw" 69 ⟨"StageMachineModel", "stopped", "(I)I"⟩, Cond.instanceMethod ⟨"StageMachineModel", "stopped", "(I)I"⟩, Cond.selects "StageMachineModel" ⟨"StageMachineModel", "stopped", "(I)I"⟩ ⟨"StageMachineModel", "stopped", "(I)I"⟩, Cond.code ⟨"StageMachineModel", "stopped", "(I)I"⟩ prog_14_method_30_code 2 (some .int), Cond.methodLink "StageMachineLaw" 73 ⟨"StageMachineModel", "free", "(I)I"⟩, Cond.instanceMethod ⟨"StageMachineModel", "free", "(I)I"⟩, Cond.selects "StageMachineModel" ⟨"StageMachineModel", "free", "(I)I"⟩ ⟨"StageMachineModel", "free", "(I)I"⟩]
def ch_6_6 : List Cond := [Cond.code ⟨"StageMachineModel", "free", "(I)I"⟩ prog_14_method_31_code 9 (some .int), Cond.methodLink "StageMachineLaw" 81 ⟨"StageMachineModel", "hold", "(I)I"⟩, Cond.instanceMethod ⟨"StageMachineModel", "hold", "(I)I"⟩, Cond.selects "StageMachineModel" ⟨"StageMachineModel", "hold", "(I)I"⟩ ⟨"StageMachineModel", "hold", "(I)I"⟩, Cond.code ⟨"StageMachineModel", "hold", "(I)I"⟩ prog_14_method_33_code 3 (some .int), Cond.methodLink "StageMachineModel" 223 ⟨"StageMachineModel", "isCaught", "(II)Z"⟩, Cond.privateMethod ⟨"StageMachineModel", "isCaught", "(II)Z"⟩, Cond.instanceMethod ⟨"StageMachineModel", "isCaught", "(II)Z"⟩, Cond.code ⟨"StageMachineModel", "isCaught", "(II)Z"⟩ prog_14_method_32_code 4 (some .boolean), Cond.methodLink "StageMachineLaw" 77 ⟨"StageMachineModel", "snap", "(I)I"⟩, Cond.instanceMethod ⟨"StageMachineModel", "snap", "(I)I"⟩, Cond.selects "StageMachineModel" ⟨"StageMachineModel", "snap", "(I)I"⟩ ⟨"StageMachineModel", "snap", "(I)I"⟩, Cond.code ⟨"StageMachineModel", "snap", "(I)I"⟩ prog_14_method_34_code 5 (some .int), Cond.methodLink "StageMachineLaw" 85 ⟨"StageMachineModel", "scene", "(III)I"⟩, Cond.instanceMethod ⟨"StageMachineModel", "scene", "(III)I"⟩, Cond.selects "StageMachineModel" ⟨"StageMachineModel", "scene", "(III)I"⟩ ⟨"StageMachineModel", "scene", "(III)I"⟩]
def ch_6_7 : List Cond := [Cond.code ⟨"StageMachineModel", "scene", "(III)I"⟩ prog_14_method_35_code 5 (some .int), Cond.methodLink "StageMachineLaw" 89 ⟨"StageMachineModel", "change", "(II)I"⟩, Cond.instanceMethod ⟨"StageMachineModel", "change", "(II)I"⟩, Cond.selects "StageMachineModel" ⟨"StageMachineModel", "change", "(II)I"⟩ ⟨"StageMachineModel", "change", "(II)I"⟩, Cond.code ⟨"StageMachineModel", "change", "(II)I"⟩ prog_14_method_38_code 6 (some .int), Cond.methodLink "StageMachineModel" 236 ⟨"StageMachineModel", "brings", "(III)Z"⟩, Cond.privateMethod ⟨"StageMachineModel", "brings", "(III)Z"⟩, Cond.instanceMethod ⟨"StageMachineModel", "brings", "(III)Z"⟩, Cond.code ⟨"StageMachineModel", "brings", "(III)Z"⟩ prog_14_method_36_code 6 (some .boolean), Cond.methodLink "StageMachineModel" 239 ⟨"StageMachineModel", "workOf", "(I)I"⟩, Cond.privateMethod ⟨"StageMachineModel", "workOf", "(I)I"⟩, Cond.instanceMethod ⟨"StageMachineModel", "workOf", "(I)I"⟩, Cond.code ⟨"StageMachineModel", "workOf", "(I)I"⟩ prog_14_method_37_code 3 (some .int), Cond.methodLink "StageMachineLaw" 93 ⟨"StageMachineModel", "told", "(II)I"⟩, Cond.instanceMethod ⟨"StageMachineModel", "told", "(II)I"⟩, Cond.selects "StageMachineModel" ⟨"StageMachineModel", "told", "(II)I"⟩ ⟨"StageMachineModel", "told", "(II)I"⟩]
def ch_6_8 : List Cond := [Cond.code ⟨"StageMachineModel", "told", "(II)I"⟩ prog_14_method_39_code 3 (some .int), Cond.methodLink "StageMachineLaw" 97 ⟨"StageMachineModel", "work", "(I)I"⟩, Cond.instanceMethod ⟨"StageMachineModel", "work", "(I)I"⟩, Cond.selects "StageMachineModel" ⟨"StageMachineModel", "work", "(I)I"⟩ ⟨"StageMachineModel", "work", "(I)I"⟩, Cond.code ⟨"StageMachineModel", "work", "(I)I"⟩ prog_14_method_40_code 4 (some .int), Cond.methodLink "StageMachineLaw" 101 ⟨"StageMachineModel", "men", "(I)I"⟩, Cond.instanceMethod ⟨"StageMachineModel", "men", "(I)I"⟩, Cond.selects "StageMachineModel" ⟨"StageMachineModel", "men", "(I)I"⟩ ⟨"StageMachineModel", "men", "(I)I"⟩, Cond.code ⟨"StageMachineModel", "men", "(I)I"⟩ prog_14_method_42_code 6 (some .int), Cond.methodLink "StageMachineModel" 242 ⟨"StageMachineModel", "menFor", "(IIII)I"⟩, Cond.privateMethod ⟨"StageMachineModel", "menFor", "(IIII)I"⟩, Cond.instanceMethod ⟨"StageMachineModel", "menFor", "(IIII)I"⟩, Cond.code ⟨"StageMachineModel", "menFor", "(IIII)I"⟩ prog_14_method_41_code 13 (some .int), Cond.methodLink "StageMachineLaw" 105 ⟨"StageMachineModel", "feed", "(II)I"⟩, Cond.instanceMethod ⟨"StageMachineModel", "feed", "(II)I"⟩, Cond.selects "StageMachineModel" ⟨"StageMachineModel", "feed", "(II)I"⟩ ⟨"StageMachineModel", "feed", "(II)I"⟩]
def ch_6_9 : List Cond := [Cond.code ⟨"StageMachineModel", "feed", "(II)I"⟩ prog_14_method_43_code 4 (some .int), Cond.methodLink "StageMachineLaw" 109 ⟨"StageMachineModel", "play", "()I"⟩, Cond.instanceMethod ⟨"StageMachineModel", "play", "()I"⟩, Cond.selects "StageMachineModel" ⟨"StageMachineModel", "play", "()I"⟩ ⟨"StageMachineModel", "play", "()I"⟩, Cond.code ⟨"StageMachineModel", "play", "()I"⟩ prog_14_method_48_code 5 (some .int), Cond.methodLink "StageMachineModel" 271 ⟨"StageMachineModel", "line", "()Z"⟩, Cond.privateMethod ⟨"StageMachineModel", "line", "()Z"⟩, Cond.instanceMethod ⟨"StageMachineModel", "line", "()Z"⟩, Cond.code ⟨"StageMachineModel", "line", "()Z"⟩ prog_14_method_46_code 2 (some .boolean), Cond.methodLink "StageMachineModel" 252 ⟨"StageMachineModel", "look", "()I"⟩, Cond.privateMethod ⟨"StageMachineModel", "look", "()I"⟩, Cond.instanceMethod ⟨"StageMachineModel", "look", "()I"⟩, Cond.code ⟨"StageMachineModel", "look", "()I"⟩ prog_14_method_44_code 1 (some .int), Cond.methodLink "StageMachineModel" 261 ⟨"StageMachineModel", "takes", "(Z)Z"⟩, Cond.privateMethod ⟨"StageMachineModel", "takes", "(Z)Z"⟩, Cond.instanceMethod ⟨"StageMachineModel", "takes", "(Z)Z"⟩]
def ch_6_10 : List Cond := [Cond.code ⟨"StageMachineModel", "takes", "(Z)Z"⟩ prog_14_method_45_code 4 (some .boolean), Cond.methodLink "StageMachineModel" 275 ⟨"StageMachineModel", "keep", "()V"⟩, Cond.privateMethod ⟨"StageMachineModel", "keep", "()V"⟩, Cond.instanceMethod ⟨"StageMachineModel", "keep", "()V"⟩, Cond.code ⟨"StageMachineModel", "keep", "()V"⟩ prog_14_method_47_code 2 none, Cond.methodLink "StageMachineLaw" 113 ⟨"StageMachineModel", "back", "()I"⟩, Cond.instanceMethod ⟨"StageMachineModel", "back", "()I"⟩, Cond.selects "StageMachineModel" ⟨"StageMachineModel", "back", "()I"⟩ ⟨"StageMachineModel", "back", "()I"⟩, Cond.code ⟨"StageMachineModel", "back", "()I"⟩ prog_14_method_49_code 2 (some .int), Cond.methodLink "StageMachineLaw" 117 ⟨"StageMachineModel", "candle", "(I)I"⟩, Cond.instanceMethod ⟨"StageMachineModel", "candle", "(I)I"⟩, Cond.selects "StageMachineModel" ⟨"StageMachineModel", "candle", "(I)I"⟩ ⟨"StageMachineModel", "candle", "(I)I"⟩, Cond.code ⟨"StageMachineModel", "candle", "(I)I"⟩ prog_14_method_51_code 2 (some .int), Cond.methodLink "StageMachineLaw" 121 ⟨"StageMachineModel", "minutes", "(I)I"⟩, Cond.instanceMethod ⟨"StageMachineModel", "minutes", "(I)I"⟩, Cond.selects "StageMachineModel" ⟨"StageMachineModel", "minutes", "(I)I"⟩ ⟨"StageMachineModel", "minutes", "(I)I"⟩]
def ch_6_11 : List Cond := [Cond.code ⟨"StageMachineModel", "minutes", "(I)I"⟩ prog_14_method_52_code 2 (some .int), Cond.methodLink "StageMachineLaw" 125 ⟨"StageMachineModel", "trim", "(I)I"⟩, Cond.instanceMethod ⟨"StageMachineModel", "trim", "(I)I"⟩, Cond.selects "StageMachineModel" ⟨"StageMachineModel", "trim", "(I)I"⟩ ⟨"StageMachineModel", "trim", "(I)I"⟩, Cond.code ⟨"StageMachineModel", "trim", "(I)I"⟩ prog_14_method_53_code 4 (some .int), Cond.methodLink "StageMachineModel" 284 ⟨"StageMachineModel", "left", "(I)I"⟩, Cond.privateMethod ⟨"StageMachineModel", "left", "(I)I"⟩, Cond.instanceMethod ⟨"StageMachineModel", "left", "(I)I"⟩, Cond.code ⟨"StageMachineModel", "left", "(I)I"⟩ prog_14_method_50_code 2 (some .int), Cond.methodLink "StageMachineLaw" 129 ⟨"StageMachineModel", "light", "(I)I"⟩, Cond.instanceMethod ⟨"StageMachineModel", "light", "(I)I"⟩, Cond.selects "StageMachineModel" ⟨"StageMachineModel", "light", "(I)I"⟩ ⟨"StageMachineModel", "light", "(I)I"⟩, Cond.code ⟨"StageMachineModel", "light", "(I)I"⟩ prog_14_method_54_code 5 (some .int), Cond.methodLink "StageMachineLaw" 133 ⟨"StageMachineModel", "flat", "(II)I"⟩, Cond.instanceMethod ⟨"StageMachineModel", "flat", "(II)I"⟩, Cond.selects "StageMachineModel" ⟨"StageMachineModel", "flat", "(II)I"⟩ ⟨"StageMachineModel", "flat", "(II)I"⟩]
def ch_6_12 : List Cond := [Cond.code ⟨"StageMachineModel", "flat", "(II)I"⟩ prog_14_method_56_code 3 (some .int), Cond.methodLink "StageMachineModel" 287 ⟨"StageMachineModel", "isSize", "(I)Z"⟩, Cond.static ⟨"StageMachineModel", "isSize", "(I)Z"⟩, Cond.code ⟨"StageMachineModel", "isSize", "(I)Z"⟩ prog_14_method_55_code 1 (some .boolean), Cond.methodLink "StageMachineLaw" 137 ⟨"StageMachineModel", "want", "(II)I"⟩, Cond.instanceMethod ⟨"StageMachineModel", "want", "(II)I"⟩, Cond.selects "StageMachineModel" ⟨"StageMachineModel", "want", "(II)I"⟩ ⟨"StageMachineModel", "want", "(II)I"⟩, Cond.code ⟨"StageMachineModel", "want", "(II)I"⟩ prog_14_method_57_code 3 (some .int), Cond.methodLink "StageMachineLaw" 141 ⟨"StageMachineModel", "paint", "()I"⟩, Cond.instanceMethod ⟨"StageMachineModel", "paint", "()I"⟩, Cond.selects "StageMachineModel" ⟨"StageMachineModel", "paint", "()I"⟩ ⟨"StageMachineModel", "paint", "()I"⟩, Cond.code ⟨"StageMachineModel", "paint", "()I"⟩ prog_14_method_62_code 5 (some .int), Cond.methodLink "StageMachineModel" 299 ⟨"StageMachineModel", "cost", "(II)I"⟩, Cond.privateMethod ⟨"StageMachineModel", "cost", "(II)I"⟩, Cond.instanceMethod ⟨"StageMachineModel", "cost", "(II)I"⟩, Cond.code ⟨"StageMachineModel", "cost", "(II)I"⟩ prog_14_method_59_code 3 (some .int)]
def ch_6_13 : List Cond := [Cond.methodLink "StageMachineModel" 296 ⟨"StageMachineModel", "area", "(I)I"⟩, Cond.static ⟨"StageMachineModel", "area", "(I)I"⟩, Cond.code ⟨"StageMachineModel", "area", "(I)I"⟩ prog_14_method_58_code 1 (some .int), Cond.methodLink "StageMachineModel" 302 ⟨"StageMachineModel", "isTaken", "(I)Z"⟩, Cond.privateMethod ⟨"StageMachineModel", "isTaken", "(I)Z"⟩, Cond.instanceMethod ⟨"StageMachineModel", "isTaken", "(I)Z"⟩, Cond.code ⟨"StageMachineModel", "isTaken", "(I)Z"⟩ prog_14_method_60_code 3 (some .boolean), Cond.methodLink "StageMachineModel" 305 ⟨"StageMachineModel", "costTo", "(I)I"⟩, Cond.privateMethod ⟨"StageMachineModel", "costTo", "(I)I"⟩, Cond.instanceMethod ⟨"StageMachineModel", "costTo", "(I)I"⟩, Cond.code ⟨"StageMachineModel", "costTo", "(I)I"⟩ prog_14_method_61_code 4 (some .int), Cond.methodLink "StageMachineLaw" 145 ⟨"StageMachineModel", "given", "(I)I"⟩, Cond.instanceMethod ⟨"StageMachineModel", "given", "(I)I"⟩, Cond.selects "StageMachineModel" ⟨"StageMachineModel", "given", "(I)I"⟩ ⟨"StageMachineModel", "given", "(I)I"⟩, Cond.code ⟨"StageMachineModel", "given", "(I)I"⟩ prog_14_method_63_code 2 (some .int), Cond.methodLink "StageMachineLaw" 149 ⟨"StageMachineModel", "count", "(I)I"⟩]
def ch_6_14 : List Cond := [Cond.instanceMethod ⟨"StageMachineModel", "count", "(I)I"⟩, Cond.selects "StageMachineModel" ⟨"StageMachineModel", "count", "(I)I"⟩ ⟨"StageMachineModel", "count", "(I)I"⟩, Cond.code ⟨"StageMachineModel", "count", "(I)I"⟩ prog_14_method_64_code 4 (some .int)]
set_option maxRecDepth 30000 in
theorem tc_6 : tables_1_6 = ch_6_0 ++ (ch_6_1 ++ (ch_6_2 ++ (ch_6_3 ++ (ch_6_4 ++ (ch_6_5 ++ (ch_6_6 ++ (ch_6_7 ++ (ch_6_8 ++ (ch_6_9 ++ (ch_6_10 ++ (ch_6_11 ++ (ch_6_12 ++ (ch_6_13 ++ (ch_6_14)))))))))))))) := rfl
theorem tm_6 {w : Cond} (h1 : w ∈ tables_1_6) : w ∈ tables_1 := List.mem_append_right _ (List.mem_append_right _ (List.mem_append_right _ (List.mem_append_right _ (List.mem_append_right _ (h1)))))
theorem tb_6_0 {i : Nat} {w : Cond} (h : ch_6_0[i]? = some w) : w ∈ tables_1 := by
  have h1 := List.mem_of_getElem? h
  refine tm_6 ?_
  rw [tc_6]
  exact List.mem_append_left _ h1
theorem tb_6_1 {i : Nat} {w : Cond} (h : ch_6_1[i]? = some w) : w ∈ tables_1 := by
  have h1 := List.mem_of_getElem? h
  refine tm_6 ?_
  rw [tc_6]
  exact List.mem_append_right _ (List.mem_append_left _ h1)
theorem tb_6_2 {i : Nat} {w : Cond} (h : ch_6_2[i]? = some w) : w ∈ tables_1 := by
  have h1 := List.mem_of_getElem? h
  refine tm_6 ?_
  rw [tc_6]
  exact List.mem_append_right _ (List.mem_append_right _ (List.mem_append_left _ h1))
theorem tb_6_3 {i : Nat} {w : Cond} (h : ch_6_3[i]? = some w) : w ∈ tables_1 := by
  have h1 := List.mem_of_getElem? h
  refine tm_6 ?_
  rw [tc_6]
  exact List.mem_append_right _ (List.mem_append_right _ (List.mem_append_right _ (List.mem_append_left _ h1)))
theorem tb_6_4 {i : Nat} {w : Cond} (h : ch_6_4[i]? = some w) : w ∈ tables_1 := by
  have h1 := List.mem_of_getElem? h
  refine tm_6 ?_
  rw [tc_6]
  exact List.mem_append_right _ (List.mem_append_right _ (List.mem_append_right _ (List.mem_append_right _ (List.mem_append_left _ h1))))
theorem tb_6_5 {i : Nat} {w : Cond} (h : ch_6_5[i]? = some w) : w ∈ tables_1 := by
  have h1 := List.mem_of_getElem? h
  refine tm_6 ?_
  rw [tc_6]
  exact List.mem_append_right _ (List.mem_append_right _ (List.mem_append_right _ (List.mem_append_right _ (List.mem_append_right _ (List.mem_append_left _ h1)))))
theorem tb_6_6 {i : Nat} {w : Cond} (h : ch_6_6[i]? = some w) : w ∈ tables_1 := by
  have h1 := List.mem_of_getElem? h
  refine tm_6 ?_
  rw [tc_6]
  exact List.mem_append_right _ (List.mem_append_right _ (List.mem_append_right _ (List.mem_append_right _ (List.mem_append_right _ (List.mem_append_right _ (List.mem_append_left _ h1))))))
theorem tb_6_7 {i : Nat} {w : Cond} (h : ch_6_7[i]? = some w) : w ∈ tables_1 := by
  have h1 := List.mem_of_getElem? h
  refine tm_6 ?_
  rw [tc_6]
  exact List.mem_append_right _ (List.mem_append_right _ (List.mem_append_right _ (List.mem_append_right _ (List.mem_append_right _ (List.mem_append_right _ (List.mem_append_right _ (List.mem_append_left _ h1)))))))
theorem tb_6_8 {i : Nat} {w : Cond} (h : ch_6_8[i]? = some w) : w ∈ tables_1 := by
  have h1 := List.mem_of_getElem? h
  refine tm_6 ?_
  rw [tc_6]
  exact List.mem_append_right _ (List.mem_append_right _ (List.mem_append_right _ (List.mem_append_right _ (List.mem_append_right _ (List.mem_append_right _ (List.mem_append_right _ (List.mem_append_right _ (List.mem_append_left _ h1))))))))
theorem tb_6_9 {i : Nat} {w : Cond} (h : ch_6_9[i]? = some w) : w ∈ tables_1 := by
  have h1 := List.mem_of_getElem? h
  refine tm_6 ?_
  rw [tc_6]
  exact List.mem_append_right _ (List.mem_append_right _ (List.mem_append_right _ (List.mem_append_right _ (List.mem_append_right _ (List.mem_append_right _ (List.mem_append_right _ (List.mem_append_right _ (List.mem_append_right _ (List.mem_append_left _ h1)))))))))
theorem tb_6_10 {i : Nat} {w : Cond} (h : ch_6_10[i]? = some w) : w ∈ tables_1 := by
  have h1 := List.mem_of_getElem? h
  refine tm_6 ?_
  rw [tc_6]
  exact List.mem_append_right _ (List.mem_append_right _ (List.mem_append_right _ (List.mem_append_right _ (List.mem_append_right _ (List.mem_append_right _ (List.mem_append_right _ (List.mem_append_right _ (List.mem_append_right _ (List.mem_append_right _ (List.mem_append_left _ h1))))))))))
theorem tb_6_11 {i : Nat} {w : Cond} (h : ch_6_11[i]? = some w) : w ∈ tables_1 := by
  have h1 := List.mem_of_getElem? h
  refine tm_6 ?_
  rw [tc_6]
  exact List.mem_append_right _ (List.mem_append_right _ (List.mem_append_right _ (List.mem_append_right _ (List.mem_append_right _ (List.mem_append_right _ (List.mem_append_right _ (List.mem_append_right _ (List.mem_append_right _ (List.mem_append_right _ (List.mem_append_right _ (List.mem_append_left _ h1)))))))))))
theorem tb_6_12 {i : Nat} {w : Cond} (h : ch_6_12[i]? = some w) : w ∈ tables_1 := by
  have h1 := List.mem_of_getElem? h
  refine tm_6 ?_
  rw [tc_6]
  exact List.mem_append_right _ (List.mem_append_right _ (List.mem_append_right _ (List.mem_append_right _ (List.mem_append_right _ (List.mem_append_right _ (List.mem_append_right _ (List.mem_append_right _ (List.mem_append_right _ (List.mem_append_right _ (List.mem_append_right _ (List.mem_append_right _ (List.mem_append_left _ h1))))))))))))
theorem tb_6_13 {i : Nat} {w : Cond} (h : ch_6_13[i]? = some w) : w ∈ tables_1 := by
  have h1 := List.mem_of_getElem? h
  refine tm_6 ?_
  rw [tc_6]
  exact List.mem_append_right _ (List.mem_append_right _ (List.mem_append_right _ (List.mem_append_right _ (List.mem_append_right _ (List.mem_append_right _ (List.mem_append_right _ (List.mem_append_right _ (List.mem_append_right _ (List.mem_append_right _ (List.mem_append_right _ (List.mem_append_right _ (List.mem_append_right _ (List.mem_append_left _ h1)))))))))))))
theorem tb_6_14 {i : Nat} {w : Cond} (h : ch_6_14[i]? = some w) : w ∈ tables_1 := by
  have h1 := List.mem_of_getElem? h
  refine tm_6 ?_
  rw [tc_6]
  exact List.mem_append_right _ (List.mem_append_right _ (List.mem_append_right _ (List.mem_append_right _ (List.mem_append_right _ (List.mem_append_right _ (List.mem_append_right _ (List.mem_append_right _ (List.mem_append_right _ (List.mem_append_right _ (List.mem_append_right _ (List.mem_append_right _ (List.mem_append_right _ (List.mem_append_right _ (h1))))))))))))))
theorem lw_n0 : "StageMachine" ≠ "java/lang/invoke/MethodHandle" ∧ "StageMachine" ≠ "java/lang/invoke/VarHandle" := ⟨by decide +kernel, by decide +kernel⟩
theorem lw_n1 : "StageMachine$Turning" ≠ "java/lang/invoke/MethodHandle" ∧ "StageMachine$Turning" ≠ "java/lang/invoke/VarHandle" := ⟨by decide +kernel, by decide +kernel⟩
theorem lw_n2 : "StageMachine$Stage" ≠ "java/lang/invoke/MethodHandle" ∧ "StageMachine$Stage" ≠ "java/lang/invoke/VarHandle" := ⟨by decide +kernel, by decide +kernel⟩
theorem lw_n3 : "StageMachine$Change" ≠ "java/lang/invoke/MethodHandle" ∧ "StageMachine$Change" ≠ "java/lang/invoke/VarHandle" := ⟨by decide +kernel, by decide +kernel⟩
theorem lw_n4 : "StageMachine$Tape" ≠ "java/lang/invoke/MethodHandle" ∧ "StageMachine$Tape" ≠ "java/lang/invoke/VarHandle" := ⟨by decide +kernel, by decide +kernel⟩
theorem lw_n5 : "StageMachine$Candles" ≠ "java/lang/invoke/MethodHandle" ∧ "StageMachine$Candles" ≠ "java/lang/invoke/VarHandle" := ⟨by decide +kernel, by decide +kernel⟩
theorem lw_n6 : "StageMachine$Stock" ≠ "java/lang/invoke/MethodHandle" ∧ "StageMachine$Stock" ≠ "java/lang/invoke/VarHandle" := ⟨by decide +kernel, by decide +kernel⟩
theorem lw_n7 : "StageMachineModel" ≠ "java/lang/invoke/MethodHandle" ∧ "StageMachineModel" ≠ "java/lang/invoke/VarHandle" := ⟨by decide +kernel, by decide +kernel⟩
/-- a private method of a class that the tables say can be made, by its rows of tables_1 -/
def lw_okq (q : MethodName × Nat) : Prop := (q.1.cls ≠ "java/lang/invoke/MethodHandle" ∧ q.1.cls ≠ "java/lang/invoke/VarHandle") ∧ Cond.instantiable q.1.cls q.2 ∈ tables_1 ∧ Cond.privateMethod q.1 ∈ tables_1 ∧ Cond.instanceMethod q.1 ∈ tables_1
theorem lw_p0 : lw_okq (⟨"StageMachine", "deed", "(IZ)I"⟩, 7) := ⟨lw_n0, tb_1_1 (i := 3) rfl, tb_2_7 (i := 13) rfl, tb_2_7 (i := 14) rfl⟩
theorem lw_p1 : lw_okq (⟨"StageMachine$Turning", "isBeyond", "()Z"⟩, 3) := ⟨lw_n1, tb_1_11 (i := 15) rfl, tb_3_7 (i := 15) rfl, tb_3_8 (i := 0) rfl⟩
theorem lw_p2 : lw_okq (⟨"StageMachine$Turning", "isMeeting", "()Z"⟩, 3) := ⟨lw_n1, tb_1_11 (i := 15) rfl, tb_3_8 (i := 4) rfl, tb_3_8 (i := 5) rfl⟩
theorem lw_p3 : lw_okq (⟨"StageMachine$Turning", "isUneven", "(I)Z"⟩, 3) := ⟨lw_n1, tb_1_11 (i := 15) rfl, tb_3_8 (i := 14) rfl, tb_3_8 (i := 15) rfl⟩
theorem lw_p4 : lw_okq (⟨"StageMachine$Turning", "stepsToNextMove", "(II)I"⟩, 3) := ⟨lw_n1, tb_1_11 (i := 15) rfl, tb_3_9 (i := 2) rfl, tb_3_9 (i := 3) rfl⟩
theorem lw_p5 : lw_okq (⟨"StageMachine$Stage", "fall", "(LStageMachine$Thing;II)I"⟩, 15) := ⟨lw_n2, tb_1_7 (i := 4) rfl, tb_3_12 (i := 0) rfl, tb_3_12 (i := 1) rfl⟩
theorem lw_p6 : lw_okq (⟨"StageMachine$Stage", "canFall", "(LStageMachine$Thing;I)Z"⟩, 15) := ⟨lw_n2, tb_1_7 (i := 4) rfl, tb_3_12 (i := 4) rfl, tb_3_12 (i := 5) rfl⟩
theorem lw_p7 : lw_okq (⟨"StageMachine$Stage", "isCatch", "(II)Z"⟩, 15) := ⟨lw_n2, tb_1_7 (i := 4) rfl, tb_3_12 (i := 8) rfl, tb_3_12 (i := 9) rfl⟩
theorem lw_p8 : lw_okq (⟨"StageMachine$Change", "findTie", "(LStageMachine$Thing;II)Z"⟩, 9) := ⟨lw_n3, tb_1_14 (i := 3) rfl, tb_3_14 (i := 8) rfl, tb_3_14 (i := 9) rfl⟩
theorem lw_p9 : lw_okq (⟨"StageMachine$Change", "findDrum", "(LStageMachine$Rope;II)I"⟩, 9) := ⟨lw_n3, tb_1_14 (i := 3) rfl, tb_3_14 (i := 13) rfl, tb_3_14 (i := 14) rfl⟩
theorem lw_p10 : lw_okq (⟨"StageMachine$Change", "countWorks", "()V"⟩, 9) := ⟨lw_n3, tb_1_14 (i := 3) rfl, tb_4_0 (i := 2) rfl, tb_4_0 (i := 3) rfl⟩
theorem lw_p11 : lw_okq (⟨"StageMachine$Change", "isReady", "(LStageMachine$Rope;I)Z"⟩, 9) := ⟨lw_n3, tb_1_14 (i := 3) rfl, tb_4_0 (i := 6) rfl, tb_4_0 (i := 7) rfl⟩
theorem lw_p12 : lw_okq (⟨"StageMachine$Change", "works", "()I"⟩, 9) := ⟨lw_n3, tb_1_14 (i := 3) rfl, tb_4_1 (i := 11) rfl, tb_4_1 (i := 12) rfl⟩
theorem lw_p13 : lw_okq (⟨"StageMachine$Change", "longestWork", "()I"⟩, 9) := ⟨lw_n3, tb_1_14 (i := 3) rfl, tb_4_2 (i := 7) rfl, tb_4_2 (i := 8) rfl⟩
theorem lw_p14 : lw_okq (⟨"StageMachine$Change", "shareOut", "(I)I"⟩, 9) := ⟨lw_n3, tb_1_14 (i := 3) rfl, tb_4_2 (i := 11) rfl, tb_4_2 (i := 12) rfl⟩
theorem lw_p15 : lw_okq (⟨"StageMachine$Change", "leastShare", "(IIII)I"⟩, 9) := ⟨lw_n3, tb_1_14 (i := 3) rfl, tb_4_2 (i := 15) rfl, tb_4_3 (i := 0) rfl⟩
def lw_privs_1 : List (MethodName × Nat) := [(⟨"StageMachine", "deed", "(IZ)I"⟩, 7), (⟨"StageMachine$Turning", "isBeyond", "()Z"⟩, 3), (⟨"StageMachine$Turning", "isMeeting", "()Z"⟩, 3), (⟨"StageMachine$Turning", "isUneven", "(I)Z"⟩, 3), (⟨"StageMachine$Turning", "stepsToNextMove", "(II)I"⟩, 3), (⟨"StageMachine$Stage", "fall", "(LStageMachine$Thing;II)I"⟩, 15), (⟨"StageMachine$Stage", "canFall", "(LStageMachine$Thing;I)Z"⟩, 15), (⟨"StageMachine$Stage", "isCatch", "(II)Z"⟩, 15), (⟨"StageMachine$Change", "findTie", "(LStageMachine$Thing;II)Z"⟩, 9), (⟨"StageMachine$Change", "findDrum", "(LStageMachine$Rope;II)I"⟩, 9), (⟨"StageMachine$Change", "countWorks", "()V"⟩, 9), (⟨"StageMachine$Change", "isReady", "(LStageMachine$Rope;I)Z"⟩, 9), (⟨"StageMachine$Change", "works", "()I"⟩, 9), (⟨"StageMachine$Change", "longestWork", "()I"⟩, 9), (⟨"StageMachine$Change", "shareOut", "(I)I"⟩, 9), (⟨"StageMachine$Change", "leastShare", "(IIII)I"⟩, 9)]
theorem lw_r1 : ∀ q ∈ lw_privs_1, lw_okq q := List.forall_mem_cons.mpr ⟨lw_p0, List.forall_mem_cons.mpr ⟨lw_p1, List.forall_mem_cons.mpr ⟨lw_p2, List.forall_mem_cons.mpr ⟨lw_p3, List.forall_mem_cons.mpr ⟨lw_p4, List.forall_mem_cons.mpr ⟨lw_p5, List.forall_mem_cons.mpr ⟨lw_p6, List.forall_mem_cons.mpr ⟨lw_p7, List.forall_mem_cons.mpr ⟨lw_p8, List.forall_mem_cons.mpr ⟨lw_p9, List.forall_mem_cons.mpr ⟨lw_p10, List.forall_mem_cons.mpr ⟨lw_p11, List.forall_mem_cons.mpr ⟨lw_p12, List.forall_mem_cons.mpr ⟨lw_p13, List.forall_mem_cons.mpr ⟨lw_p14, List.forall_mem_cons.mpr ⟨lw_p15, fun _ h => absurd h List.not_mem_nil⟩⟩⟩⟩⟩⟩⟩⟩⟩⟩⟩⟩⟩⟩⟩⟩
theorem lw_p16 : lw_okq (⟨"StageMachine$Change", "slot", "(III)I"⟩, 9) := ⟨lw_n3, tb_1_14 (i := 3) rfl, tb_4_3 (i := 3) rfl, tb_4_3 (i := 4) rfl⟩
theorem lw_p17 : lw_okq (⟨"StageMachine$Change", "withWork", "(III)I"⟩, 9) := ⟨lw_n3, tb_1_14 (i := 3) rfl, tb_4_3 (i := 7) rfl, tb_4_3 (i := 8) rfl⟩
theorem lw_p18 : lw_okq (⟨"StageMachine$Tape", "readLine", "(I)Z"⟩, 8) := ⟨lw_n4, tb_1_1 (i := 11) rfl, tb_4_4 (i := 14) rfl, tb_4_4 (i := 15) rfl⟩
theorem lw_p19 : lw_okq (⟨"StageMachine$Tape", "peek", "()I"⟩, 8) := ⟨lw_n4, tb_1_1 (i := 11) rfl, tb_4_5 (i := 2) rfl, tb_4_5 (i := 3) rfl⟩
theorem lw_p20 : lw_okq (⟨"StageMachine$Tape", "readTwo", "(IZ)Z"⟩, 8) := ⟨lw_n4, tb_1_1 (i := 11) rfl, tb_4_5 (i := 6) rfl, tb_4_5 (i := 7) rfl⟩
theorem lw_p21 : lw_okq (⟨"StageMachine$Tape", "readNumber", "(Z)Z"⟩, 8) := ⟨lw_n4, tb_1_1 (i := 11) rfl, tb_4_5 (i := 10) rfl, tb_4_5 (i := 11) rfl⟩
theorem lw_p22 : lw_okq (⟨"StageMachine$Tape", "readSign", "(I)Z"⟩, 8) := ⟨lw_n4, tb_1_1 (i := 11) rfl, tb_4_5 (i := 14) rfl, tb_4_5 (i := 15) rfl⟩
theorem lw_p23 : lw_okq (⟨"StageMachine$Tape", "readOne", "(IZ)Z"⟩, 8) := ⟨lw_n4, tb_1_1 (i := 11) rfl, tb_4_6 (i := 2) rfl, tb_4_6 (i := 3) rfl⟩
theorem lw_p24 : lw_okq (⟨"StageMachine", "playLine", "(I)I"⟩, 7) := ⟨lw_n0, tb_1_1 (i := 3) rfl, tb_4_6 (i := 13) rfl, tb_4_6 (i := 14) rfl⟩
theorem lw_p25 : lw_okq (⟨"StageMachine$Candles", "burning", "()I"⟩, 4) := ⟨lw_n5, tb_1_4 (i := 0) rfl, tb_4_9 (i := 11) rfl, tb_4_9 (i := 12) rfl⟩
theorem lw_p26 : lw_okq (⟨"StageMachine$Candles", "leastLeft", "()I"⟩, 4) := ⟨lw_n5, tb_1_4 (i := 0) rfl, tb_4_9 (i := 15) rfl, tb_4_10 (i := 0) rfl⟩
theorem lw_p27 : lw_okq (⟨"StageMachine$Stock", "leastSum", "()I"⟩, 7) := ⟨lw_n6, tb_1_5 (i := 5) rfl, tb_4_12 (i := 15) rfl, tb_4_13 (i := 0) rfl⟩
theorem lw_p28 : lw_okq (⟨"StageMachine$Stock", "leastSumBehind", "(ILStageMachine$Panel;)I"⟩, 7) := ⟨lw_n6, tb_1_5 (i := 5) rfl, tb_4_13 (i := 9) rfl, tb_4_13 (i := 10) rfl⟩
theorem lw_p29 : lw_okq (⟨"StageMachine$Stock", "sumWith", "(IILStageMachine$Panel;)I"⟩, 7) := ⟨lw_n6, tb_1_5 (i := 5) rfl, tb_4_13 (i := 13) rfl, tb_4_13 (i := 14) rfl⟩
theorem lw_p30 : lw_okq (⟨"StageMachine$Stock", "give", "()V"⟩, 7) := ⟨lw_n6, tb_1_5 (i := 5) rfl, tb_4_14 (i := 14) rfl, tb_4_14 (i := 15) rfl⟩
theorem lw_p31 : lw_okq (⟨"StageMachineModel", "isThing", "(I)Z"⟩, 65) := ⟨lw_n7, tb_5_1 (i := 2) rfl, tb_5_14 (i := 9) rfl, tb_5_14 (i := 10) rfl⟩
def lw_privs_2 : List (MethodName × Nat) := [(⟨"StageMachine$Change", "slot", "(III)I"⟩, 9), (⟨"StageMachine$Change", "withWork", "(III)I"⟩, 9), (⟨"StageMachine$Tape", "readLine", "(I)Z"⟩, 8), (⟨"StageMachine$Tape", "peek", "()I"⟩, 8), (⟨"StageMachine$Tape", "readTwo", "(IZ)Z"⟩, 8), (⟨"StageMachine$Tape", "readNumber", "(Z)Z"⟩, 8), (⟨"StageMachine$Tape", "readSign", "(I)Z"⟩, 8), (⟨"StageMachine$Tape", "readOne", "(IZ)Z"⟩, 8), (⟨"StageMachine", "playLine", "(I)I"⟩, 7), (⟨"StageMachine$Candles", "burning", "()I"⟩, 4), (⟨"StageMachine$Candles", "leastLeft", "()I"⟩, 4), (⟨"StageMachine$Stock", "leastSum", "()I"⟩, 7), (⟨"StageMachine$Stock", "leastSumBehind", "(ILStageMachine$Panel;)I"⟩, 7), (⟨"StageMachine$Stock", "sumWith", "(IILStageMachine$Panel;)I"⟩, 7), (⟨"StageMachine$Stock", "give", "()V"⟩, 7), (⟨"StageMachineModel", "isThing", "(I)Z"⟩, 65)]
theorem lw_r2 : ∀ q ∈ lw_privs_2, lw_okq q := List.forall_mem_cons.mpr ⟨lw_p16, List.forall_mem_cons.mpr ⟨lw_p17, List.forall_mem_cons.mpr ⟨lw_p18, List.forall_mem_cons.mpr ⟨lw_p19, List.forall_mem_cons.mpr ⟨lw_p20, List.forall_mem_cons.mpr ⟨lw_p21, List.forall_mem_cons.mpr ⟨lw_p22, List.forall_mem_cons.mpr ⟨lw_p23, List.forall_mem_cons.mpr ⟨lw_p24, List.forall_mem_cons.mpr ⟨lw_p25, List.forall_mem_cons.mpr ⟨lw_p26, List.forall_mem_cons.mpr ⟨lw_p27, List.forall_mem_cons.mpr ⟨lw_p28, List.forall_mem_cons.mpr ⟨lw_p29, List.forall_mem_cons.mpr ⟨lw_p30, List.forall_mem_cons.mpr ⟨lw_p31, fun _ h => absurd h List.not_mem_nil⟩⟩⟩⟩⟩⟩⟩⟩⟩⟩⟩⟩⟩⟩⟩⟩
theorem lw_p32 : lw_okq (⟨"StageMachineModel", "tiedTo", "(I)I"⟩, 65) := ⟨lw_n7, tb_5_1 (i := 2) rfl, tb_5_14 (i := 13) rfl, tb_5_14 (i := 14) rfl⟩
theorem lw_p33 : lw_okq (⟨"StageMachineModel", "isRope", "(I)Z"⟩, 65) := ⟨lw_n7, tb_5_1 (i := 2) rfl, tb_6_1 (i := 1) rfl, tb_6_1 (i := 2) rfl⟩
theorem lw_p34 : lw_okq (⟨"StageMachineModel", "load", "(I)I"⟩, 65) := ⟨lw_n7, tb_5_1 (i := 2) rfl, tb_6_1 (i := 6) rfl, tb_6_1 (i := 7) rfl⟩
theorem lw_p35 : lw_okq (⟨"StageMachineModel", "tieNow", "(II)I"⟩, 65) := ⟨lw_n7, tb_5_1 (i := 2) rfl, tb_6_1 (i := 14) rfl, tb_6_1 (i := 15) rfl⟩
theorem lw_p36 : lw_okq (⟨"StageMachineModel", "isDrum", "(I)Z"⟩, 65) := ⟨lw_n7, tb_5_1 (i := 2) rfl, tb_6_2 (i := 2) rfl, tb_6_2 (i := 3) rfl⟩
theorem lw_p37 : lw_okq (⟨"StageMachineModel", "untieNow", "(I)I"⟩, 65) := ⟨lw_n7, tb_5_1 (i := 2) rfl, tb_6_2 (i := 10) rfl, tb_6_2 (i := 11) rfl⟩
theorem lw_p38 : lw_okq (⟨"StageMachineModel", "weighNow", "(II)I"⟩, 65) := ⟨lw_n7, tb_5_1 (i := 2) rfl, tb_6_3 (i := 2) rfl, tb_6_3 (i := 3) rfl⟩
theorem lw_p39 : lw_okq (⟨"StageMachineModel", "turnNow", "(I)I"⟩, 65) := ⟨lw_n7, tb_5_1 (i := 2) rfl, tb_6_4 (i := 5) rfl, tb_6_4 (i := 6) rfl⟩
theorem lw_p40 : lw_okq (⟨"StageMachineModel", "place", "(I)V"⟩, 65) := ⟨lw_n7, tb_5_1 (i := 2) rfl, tb_6_4 (i := 9) rfl, tb_6_4 (i := 10) rfl⟩
theorem lw_p41 : lw_okq (⟨"StageMachineModel", "find", "()V"⟩, 65) := ⟨lw_n7, tb_5_1 (i := 2) rfl, tb_6_4 (i := 13) rfl, tb_6_4 (i := 14) rfl⟩
theorem lw_p42 : lw_okq (⟨"StageMachineModel", "other", "(II)I"⟩, 65) := ⟨lw_n7, tb_5_1 (i := 2) rfl, tb_6_5 (i := 1) rfl, tb_6_5 (i := 2) rfl⟩
theorem lw_p43 : lw_okq (⟨"StageMachineModel", "meets", "(III)Z"⟩, 65) := ⟨lw_n7, tb_5_1 (i := 2) rfl, tb_6_5 (i := 5) rfl, tb_6_5 (i := 6) rfl⟩
theorem lw_p44 : lw_okq (⟨"StageMachineModel", "isCaught", "(II)Z"⟩, 65) := ⟨lw_n7, tb_5_1 (i := 2) rfl, tb_6_6 (i := 6) rfl, tb_6_6 (i := 7) rfl⟩
theorem lw_p45 : lw_okq (⟨"StageMachineModel", "brings", "(III)Z"⟩, 65) := ⟨lw_n7, tb_5_1 (i := 2) rfl, tb_6_7 (i := 6) rfl, tb_6_7 (i := 7) rfl⟩
theorem lw_p46 : lw_okq (⟨"StageMachineModel", "workOf", "(I)I"⟩, 65) := ⟨lw_n7, tb_5_1 (i := 2) rfl, tb_6_7 (i := 10) rfl, tb_6_7 (i := 11) rfl⟩
theorem lw_p47 : lw_okq (⟨"StageMachineModel", "menFor", "(IIII)I"⟩, 65) := ⟨lw_n7, tb_5_1 (i := 2) rfl, tb_6_8 (i := 10) rfl, tb_6_8 (i := 11) rfl⟩
def lw_privs_3 : List (MethodName × Nat) := [(⟨"StageMachineModel", "tiedTo", "(I)I"⟩, 65), (⟨"StageMachineModel", "isRope", "(I)Z"⟩, 65), (⟨"StageMachineModel", "load", "(I)I"⟩, 65), (⟨"StageMachineModel", "tieNow", "(II)I"⟩, 65), (⟨"StageMachineModel", "isDrum", "(I)Z"⟩, 65), (⟨"StageMachineModel", "untieNow", "(I)I"⟩, 65), (⟨"StageMachineModel", "weighNow", "(II)I"⟩, 65), (⟨"StageMachineModel", "turnNow", "(I)I"⟩, 65), (⟨"StageMachineModel", "place", "(I)V"⟩, 65), (⟨"StageMachineModel", "find", "()V"⟩, 65), (⟨"StageMachineModel", "other", "(II)I"⟩, 65), (⟨"StageMachineModel", "meets", "(III)Z"⟩, 65), (⟨"StageMachineModel", "isCaught", "(II)Z"⟩, 65), (⟨"StageMachineModel", "brings", "(III)Z"⟩, 65), (⟨"StageMachineModel", "workOf", "(I)I"⟩, 65), (⟨"StageMachineModel", "menFor", "(IIII)I"⟩, 65)]
theorem lw_r3 : ∀ q ∈ lw_privs_3, lw_okq q := List.forall_mem_cons.mpr ⟨lw_p32, List.forall_mem_cons.mpr ⟨lw_p33, List.forall_mem_cons.mpr ⟨lw_p34, List.forall_mem_cons.mpr ⟨lw_p35, List.forall_mem_cons.mpr ⟨lw_p36, List.forall_mem_cons.mpr ⟨lw_p37, List.forall_mem_cons.mpr ⟨lw_p38, List.forall_mem_cons.mpr ⟨lw_p39, List.forall_mem_cons.mpr ⟨lw_p40, List.forall_mem_cons.mpr ⟨lw_p41, List.forall_mem_cons.mpr ⟨lw_p42, List.forall_mem_cons.mpr ⟨lw_p43, List.forall_mem_cons.mpr ⟨lw_p44, List.forall_mem_cons.mpr ⟨lw_p45, List.forall_mem_cons.mpr ⟨lw_p46, List.forall_mem_cons.mpr ⟨lw_p47, fun _ h => absurd h List.not_mem_nil⟩⟩⟩⟩⟩⟩⟩⟩⟩⟩⟩⟩⟩⟩⟩⟩
theorem lw_p48 : lw_okq (⟨"StageMachineModel", "line", "()Z"⟩, 65) := ⟨lw_n7, tb_5_1 (i := 2) rfl, tb_6_9 (i := 6) rfl, tb_6_9 (i := 7) rfl⟩
theorem lw_p49 : lw_okq (⟨"StageMachineModel", "look", "()I"⟩, 65) := ⟨lw_n7, tb_5_1 (i := 2) rfl, tb_6_9 (i := 10) rfl, tb_6_9 (i := 11) rfl⟩
theorem lw_p50 : lw_okq (⟨"StageMachineModel", "takes", "(Z)Z"⟩, 65) := ⟨lw_n7, tb_5_1 (i := 2) rfl, tb_6_9 (i := 14) rfl, tb_6_9 (i := 15) rfl⟩
theorem lw_p51 : lw_okq (⟨"StageMachineModel", "keep", "()V"⟩, 65) := ⟨lw_n7, tb_5_1 (i := 2) rfl, tb_6_10 (i := 2) rfl, tb_6_10 (i := 3) rfl⟩
theorem lw_p52 : lw_okq (⟨"StageMachineModel", "left", "(I)I"⟩, 65) := ⟨lw_n7, tb_5_1 (i := 2) rfl, tb_6_11 (i := 6) rfl, tb_6_11 (i := 7) rfl⟩
theorem lw_p53 : lw_okq (⟨"StageMachineModel", "cost", "(II)I"⟩, 65) := ⟨lw_n7, tb_5_1 (i := 2) rfl, tb_6_12 (i := 13) rfl, tb_6_12 (i := 14) rfl⟩
theorem lw_p54 : lw_okq (⟨"StageMachineModel", "isTaken", "(I)Z"⟩, 65) := ⟨lw_n7, tb_5_1 (i := 2) rfl, tb_6_13 (i := 4) rfl, tb_6_13 (i := 5) rfl⟩
theorem lw_p55 : lw_okq (⟨"StageMachineModel", "costTo", "(I)I"⟩, 65) := ⟨lw_n7, tb_5_1 (i := 2) rfl, tb_6_13 (i := 8) rfl, tb_6_13 (i := 9) rfl⟩
def lw_privs_4 : List (MethodName × Nat) := [(⟨"StageMachineModel", "line", "()Z"⟩, 65), (⟨"StageMachineModel", "look", "()I"⟩, 65), (⟨"StageMachineModel", "takes", "(Z)Z"⟩, 65), (⟨"StageMachineModel", "keep", "()V"⟩, 65), (⟨"StageMachineModel", "left", "(I)I"⟩, 65), (⟨"StageMachineModel", "cost", "(II)I"⟩, 65), (⟨"StageMachineModel", "isTaken", "(I)Z"⟩, 65), (⟨"StageMachineModel", "costTo", "(I)I"⟩, 65)]
theorem lw_r4 : ∀ q ∈ lw_privs_4, lw_okq q := List.forall_mem_cons.mpr ⟨lw_p48, List.forall_mem_cons.mpr ⟨lw_p49, List.forall_mem_cons.mpr ⟨lw_p50, List.forall_mem_cons.mpr ⟨lw_p51, List.forall_mem_cons.mpr ⟨lw_p52, List.forall_mem_cons.mpr ⟨lw_p53, List.forall_mem_cons.mpr ⟨lw_p54, List.forall_mem_cons.mpr ⟨lw_p55, fun _ h => absurd h List.not_mem_nil⟩⟩⟩⟩⟩⟩⟩⟩
def lw_privs : List (MethodName × Nat) := lw_privs_1 ++ (lw_privs_2 ++ (lw_privs_3 ++ (lw_privs_4)))
def lw_tbl : List Cond := k2_sels lw_privs ++ tables_1
theorem lw_privs_ok : ∀ q ∈ lw_privs, lw_okq q := by
  show ∀ q ∈ lw_privs_1 ++ (lw_privs_2 ++ (lw_privs_3 ++ (lw_privs_4))), lw_okq q
  exact List.forall_mem_append.mpr ⟨lw_r1, List.forall_mem_append.mpr ⟨lw_r2, List.forall_mem_append.mpr ⟨lw_r3, lw_r4⟩⟩⟩
-- ===== end of PART A; then your names; then what follows =====
def RX0 : String := "StageMachine$Candles"
def TX0 : u_T := fun k => match k with
  | 0 => ("StageMachine$Candles", "lengths", "[I", true)
  | 1 => ("StageMachine$Candles", "ends", "[I", true)
  | 2 => ("StageMachine$Candles", "number", "I", false)
  | _ => ("StageMachine$Candles", "time", "I", false)
def tyX0 : Nat → FieldType := fun k => match k with
  | 0 => .array .int
  | 1 => .array .int
  | 2 => .int
  | _ => .int
abbrev wsX00 : List Cond := u_ws RX0 TX0 4
theorem nmX0 : ∀ a, a < 4 → ∀ b, b < 4 → a ≠ b → (TX0 a).2.1 ≠ (TX0 b).2.1 := by decide +kernel
theorem tyX0_ok : ∀ k, k < 4 → parseFieldDescriptor (TX0 k).2.2.1 = some (tyX0 k) := by decide +kernel
abbrev cX0_init : ByteArray := prog_2_method_1_code
def yX0_init : MethodName := ⟨RX0, "<init>", "()V"⟩
abbrev cX0_add : ByteArray := prog_2_method_2_code
def yX0_add : MethodName := ⟨RX0, "add", "(I)I"⟩
abbrev cX0_pass : ByteArray := prog_2_method_3_code
def yX0_pass : MethodName := ⟨RX0, "pass", "(I)I"⟩
abbrev cX0_renew : ByteArray := prog_2_method_4_code
def yX0_renew : MethodName := ⟨RX0, "renew", "(I)I"⟩
abbrev cX0_tell : ByteArray := prog_2_method_5_code
def yX0_tell : MethodName := ⟨RX0, "tell", "(I)I"⟩
abbrev cX0_burning : ByteArray := prog_2_method_6_code
def yX0_burning : MethodName := ⟨RX0, "burning", "()I"⟩
abbrev cX0_leastLeft : ByteArray := prog_2_method_7_code
def yX0_leastLeft : MethodName := ⟨RX0, "leastLeft", "()I"⟩
def RX1 : String := "StageMachine$Change"
def TX1 : u_T := fun k => match k with
  | 0 => ("StageMachine$Change", "stage", "LStageMachine$Stage;", true)
  | 1 => ("StageMachine$Change", "ropes", "[I", true)
  | 2 => ("StageMachine$Change", "drums", "[I", true)
  | 3 => ("StageMachine$Change", "shares", "[I", true)
  | 4 => ("StageMachine$Change", "asked", "Z", false)
  | 5 => ("StageMachine$Change", "found", "Z", false)
  | 6 => ("StageMachine$Change", "twos", "I", false)
  | 7 => ("StageMachine$Change", "threes", "I", false)
  | _ => ("StageMachine$Change", "fives", "I", false)
def tyX1 : Nat → FieldType := fun k => match k with
  | 0 => .object "StageMachine$Stage"
  | 1 => .array .int
  | 2 => .array .int
  | 3 => .array .int
  | 4 => .boolean
  | 5 => .boolean
  | 6 => .int
  | 7 => .int
  | _ => .int
abbrev wsX10 : List Cond := u_ws RX1 TX1 9
theorem nmX1 : ∀ a, a < 9 → ∀ b, b < 9 → a ≠ b → (TX1 a).2.1 ≠ (TX1 b).2.1 := by decide +kernel
theorem tyX1_ok : ∀ k, k < 9 → parseFieldDescriptor (TX1 k).2.2.1 = some (tyX1 k) := by decide +kernel
abbrev cX1_init : ByteArray := prog_3_method_1_code
def yX1_init : MethodName := ⟨RX1, "<init>", "(LStageMachine$Stage;)V"⟩
abbrev cX1_plan : ByteArray := prog_3_method_2_code
def yX1_plan : MethodName := ⟨RX1, "plan", "(II)I"⟩
abbrev cX1_findTie : ByteArray := prog_3_method_3_code
def yX1_findTie : MethodName := ⟨RX1, "findTie", "(LStageMachine$Thing;II)Z"⟩
abbrev cX1_findDrum : ByteArray := prog_3_method_4_code
def yX1_findDrum : MethodName := ⟨RX1, "findDrum", "(LStageMachine$Rope;II)I"⟩
abbrev cX1_countWorks : ByteArray := prog_3_method_5_code
def yX1_countWorks : MethodName := ⟨RX1, "countWorks", "()V"⟩
abbrev cX1_isReady : ByteArray := prog_3_method_6_code
def yX1_isReady : MethodName := ⟨RX1, "isReady", "(LStageMachine$Rope;I)Z"⟩
abbrev cX1_tieOf : ByteArray := prog_3_method_7_code
def yX1_tieOf : MethodName := ⟨RX1, "tieOf", "(II)I"⟩
abbrev cX1_workFor : ByteArray := prog_3_method_8_code
def yX1_workFor : MethodName := ⟨RX1, "workFor", "(I)I"⟩
abbrev cX1_works : ByteArray := prog_3_method_9_code
def yX1_works : MethodName := ⟨RX1, "works", "()I"⟩
abbrev cX1_leastMen : ByteArray := prog_3_method_10_code
def yX1_leastMen : MethodName := ⟨RX1, "leastMen", "(I)I"⟩
abbrev cX1_longestWork : ByteArray := prog_3_method_11_code
def yX1_longestWork : MethodName := ⟨RX1, "longestWork", "()I"⟩
abbrev cX1_shareOut : ByteArray := prog_3_method_12_code
def yX1_shareOut : MethodName := ⟨RX1, "shareOut", "(I)I"⟩
abbrev cX1_leastShare : ByteArray := prog_3_method_13_code
def yX1_leastShare : MethodName := ⟨RX1, "leastShare", "(IIII)I"⟩
abbrev cX1_withWork : ByteArray := prog_3_method_14_code
def yX1_withWork : MethodName := ⟨RX1, "withWork", "(III)I"⟩
abbrev cX1_slot : ByteArray := prog_3_method_15_code
def yX1_slot : MethodName := ⟨RX1, "slot", "(III)I"⟩
def RX2 : String := "StageMachine$Drum"
def TX2 : u_T := fun k => match k with
  | 0 => ("StageMachine$Drum", "number", "I", true)
  | _ => ("StageMachine$Drum", "size", "I", true)
def tyX2 : Nat → FieldType := fun k => match k with
  | 0 => .int
  | _ => .int
abbrev wsX20 : List Cond := u_ws RX2 TX2 2
theorem nmX2 : ∀ a, a < 2 → ∀ b, b < 2 → a ≠ b → (TX2 a).2.1 ≠ (TX2 b).2.1 := by decide +kernel
theorem tyX2_ok : ∀ k, k < 2 → parseFieldDescriptor (TX2 k).2.2.1 = some (tyX2 k) := by decide +kernel
abbrev cX2_init : ByteArray := prog_4_method_1_code
def yX2_init : MethodName := ⟨RX2, "<init>", "(II)V"⟩
def RX3 : String := "StageMachine$Panel"
def TX3 : u_T := fun k => match k with
  | 0 => ("StageMachine$Panel", "height", "I", true)
  | 1 => ("StageMachine$Panel", "width", "I", true)
  | _ => ("StageMachine$Panel", "paint", "I", true)
def tyX3 : Nat → FieldType := fun k => match k with
  | 0 => .int
  | 1 => .int
  | _ => .int
abbrev wsX30 : List Cond := u_ws RX3 TX3 3
theorem nmX3 : ∀ a, a < 3 → ∀ b, b < 3 → a ≠ b → (TX3 a).2.1 ≠ (TX3 b).2.1 := by decide +kernel
theorem tyX3_ok : ∀ k, k < 3 → parseFieldDescriptor (TX3 k).2.2.1 = some (tyX3 k) := by decide +kernel
abbrev cX3_init : ByteArray := prog_5_method_1_code
def yX3_init : MethodName := ⟨RX3, "<init>", "(II)V"⟩
abbrev cX3_area : ByteArray := prog_5_method_2_code
def yX3_area : MethodName := ⟨RX3, "area", "()I"⟩
abbrev cX3_serves : ByteArray := prog_5_method_3_code
def yX3_serves : MethodName := ⟨RX3, "serves", "(LStageMachine$Panel;)Z"⟩
abbrev cX3_priceFor : ByteArray := prog_5_method_4_code
def yX3_priceFor : MethodName := ⟨RX3, "priceFor", "(LStageMachine$Panel;)I"⟩
def RX4 : String := "StageMachine$Rope"
def TX4 : u_T := fun k => match k with
  | 0 => ("StageMachine$Rope", "number", "I", true)
  | 1 => ("StageMachine$Rope", "thing", "LStageMachine$Thing;", true)
  | 2 => ("StageMachine$Rope", "way", "I", true)
  | 3 => ("StageMachine$Rope", "gear", "I", true)
  | 4 => ("StageMachine$Rope", "holds", "I", true)
  | 5 => ("StageMachine$Rope", "drum", "LStageMachine$Drum;", false)
  | 6 => ("StageMachine$Rope", "start", "I", false)
  | 7 => ("StageMachine$Rope", "done", "I", false)
  | 8 => ("StageMachine$Rope", "gone", "Z", false)
  | 9 => ("StageMachine$Rope", "keptDrum", "LStageMachine$Drum;", false)
  | 10 => ("StageMachine$Rope", "keptStart", "I", false)
  | _ => ("StageMachine$Rope", "keptDone", "I", false)
def tyX4 : Nat → FieldType := fun k => match k with
  | 0 => .int
  | 1 => .object "StageMachine$Thing"
  | 2 => .int
  | 3 => .int
  | 4 => .int
  | 5 => .object "StageMachine$Drum"
  | 6 => .int
  | 7 => .int
  | 8 => .boolean
  | 9 => .object "StageMachine$Drum"
  | 10 => .int
  | _ => .int
abbrev wsX40 : List Cond := u_ws RX4 TX4 12
theorem nmX4 : ∀ a, a < 12 → ∀ b, b < 12 → a ≠ b → (TX4 a).2.1 ≠ (TX4 b).2.1 := by decide +kernel
theorem tyX4_ok : ∀ k, k < 12 → parseFieldDescriptor (TX4 k).2.2.1 = some (tyX4 k) := by decide +kernel
abbrev cX4_init : ByteArray := prog_6_method_1_code
def yX4_init : MethodName := ⟨RX4, "<init>", "(ILStageMachine$Thing;III)V"⟩
abbrev cX4_tell : ByteArray := prog_6_method_2_code
def yX4_tell : MethodName := ⟨RX4, "tell", "(I)I"⟩
abbrev cX4_load : ByteArray := prog_6_method_3_code
def yX4_load : MethodName := ⟨RX4, "load", "()I"⟩
abbrev cX4_spare : ByteArray := prog_6_method_4_code
def yX4_spare : MethodName := ⟨RX4, "spare", "()I"⟩
abbrev cX4_placeFrom : ByteArray := prog_6_method_5_code
def yX4_placeFrom : MethodName := ⟨RX4, "placeFrom", "(II)I"⟩
abbrev cX4_doneAfter : ByteArray := prog_6_method_6_code
def yX4_doneAfter : MethodName := ⟨RX4, "doneAfter", "(I)I"⟩
abbrev cX4_pullAt : ByteArray := prog_6_method_7_code
def yX4_pullAt : MethodName := ⟨RX4, "pullAt", "(I)I"⟩
abbrev cX4_stepsToNextPlace : ByteArray := prog_6_method_8_code
def yX4_stepsToNextPlace : MethodName := ⟨RX4, "stepsToNextPlace", "(II)I"⟩
abbrev cX4_advance : ByteArray := prog_6_method_9_code
def yX4_advance : MethodName := ⟨RX4, "advance", "(I)V"⟩
abbrev cX4_bind : ByteArray := prog_6_method_10_code
def yX4_bind : MethodName := ⟨RX4, "bind", "(LStageMachine$Drum;)V"⟩
abbrev cX4_loosen : ByteArray := prog_6_method_11_code
def yX4_loosen : MethodName := ⟨RX4, "loosen", "()V"⟩
def RX5 : String := "StageMachine$Stage"
def TX5 : u_T := fun k => match k with
  | 0 => ("StageMachine$Stage", "things", "[LStageMachine$Thing;", true)
  | 1 => ("StageMachine$Stage", "drums", "[LStageMachine$Drum;", true)
  | 2 => ("StageMachine$Stage", "ropes", "[LStageMachine$Rope;", true)
  | 3 => ("StageMachine$Stage", "weights", "[I", true)
  | 4 => ("StageMachine$Stage", "keptWeights", "[I", true)
  | 5 => ("StageMachine$Stage", "catches", "[I", true)
  | 6 => ("StageMachine$Stage", "catchCounts", "[I", true)
  | 7 => ("StageMachine$Stage", "thingCount", "I", false)
  | 8 => ("StageMachine$Stage", "drumCount", "I", false)
  | 9 => ("StageMachine$Stage", "ropeCount", "I", false)
  | 10 => ("StageMachine$Stage", "bound", "I", false)
  | 11 => ("StageMachine$Stage", "shaft", "I", false)
  | 12 => ("StageMachine$Stage", "wear", "I", false)
  | 13 => ("StageMachine$Stage", "keptShaft", "I", false)
  | _ => ("StageMachine$Stage", "keptWear", "I", false)
def tyX5 : Nat → FieldType := fun k => match k with
  | 0 => .array (.object "StageMachine$Thing")
  | 1 => .array (.object "StageMachine$Drum")
  | 2 => .array (.object "StageMachine$Rope")
  | 3 => .array .int
  | 4 => .array .int
  | 5 => .array .int
  | 6 => .array .int
  | 7 => .int
  | 8 => .int
  | 9 => .int
  | 10 => .int
  | 11 => .int
  | 12 => .int
  | 13 => .int
  | _ => .int
abbrev wsX50 : List Cond := u_ws RX5 TX5 15
theorem nmX5 : ∀ a, a < 15 → ∀ b, b < 15 → a ≠ b → (TX5 a).2.1 ≠ (TX5 b).2.1 := by decide +kernel
theorem tyX5_ok : ∀ k, k < 15 → parseFieldDescriptor (TX5 k).2.2.1 = some (tyX5 k) := by decide +kernel
abbrev cX5_init : ByteArray := prog_7_method_1_code
def yX5_init : MethodName := ⟨RX5, "<init>", "()V"⟩
abbrev cX5_thingNumbered : ByteArray := prog_7_method_2_code
def yX5_thingNumbered : MethodName := ⟨RX5, "thingNumbered", "(I)LStageMachine$Thing;"⟩
abbrev cX5_drumNumbered : ByteArray := prog_7_method_3_code
def yX5_drumNumbered : MethodName := ⟨RX5, "drumNumbered", "(I)LStageMachine$Drum;"⟩
abbrev cX5_ropeNumbered : ByteArray := prog_7_method_4_code
def yX5_ropeNumbered : MethodName := ⟨RX5, "ropeNumbered", "(I)LStageMachine$Rope;"⟩
abbrev cX5_addThing : ByteArray := prog_7_method_5_code
def yX5_addThing : MethodName := ⟨RX5, "addThing", "(IIII)I"⟩
abbrev cX5_addDrum : ByteArray := prog_7_method_6_code
def yX5_addDrum : MethodName := ⟨RX5, "addDrum", "(I)I"⟩
abbrev cX5_addRope : ByteArray := prog_7_method_7_code
def yX5_addRope : MethodName := ⟨RX5, "addRope", "(III)I"⟩
abbrev cX5_standingOn : ByteArray := prog_7_method_8_code
def yX5_standingOn : MethodName := ⟨RX5, "standingOn", "(I)I"⟩
abbrev cX5_isClear : ByteArray := prog_7_method_9_code
def yX5_isClear : MethodName := ⟨RX5, "isClear", "(LStageMachine$Thing;III)Z"⟩
abbrev cX5_tieRope : ByteArray := prog_7_method_10_code
def yX5_tieRope : MethodName := ⟨RX5, "tieRope", "(II)I"⟩
abbrev cX5_untieRope : ByteArray := prog_7_method_11_code
def yX5_untieRope : MethodName := ⟨RX5, "untieRope", "(I)I"⟩
abbrev cX5_tiedCount : ByteArray := prog_7_method_12_code
def yX5_tiedCount : MethodName := ⟨RX5, "tiedCount", "()I"⟩
abbrev cX5_setWeight : ByteArray := prog_7_method_13_code
def yX5_setWeight : MethodName := ⟨RX5, "setWeight", "(II)I"⟩
abbrev cX5_setBound : ByteArray := prog_7_method_14_code
def yX5_setBound : MethodName := ⟨RX5, "setBound", "(I)I"⟩
abbrev cX5_pullNow : ByteArray := prog_7_method_15_code
def yX5_pullNow : MethodName := ⟨RX5, "pullNow", "()I"⟩
abbrev cX5_place : ByteArray := prog_7_method_16_code
def yX5_place : MethodName := ⟨RX5, "place", "(I)V"⟩
abbrev cX5_trialPull : ByteArray := prog_7_method_17_code
def yX5_trialPull : MethodName := ⟨RX5, "trialPull", "()I"⟩
abbrev cX5_advance : ByteArray := prog_7_method_18_code
def yX5_advance : MethodName := ⟨RX5, "advance", "(I)V"⟩
abbrev cX5_breakRope : ByteArray := prog_7_method_19_code
def yX5_breakRope : MethodName := ⟨RX5, "breakRope", "(I)I"⟩
abbrev cX5_fall : ByteArray := prog_7_method_20_code
def yX5_fall : MethodName := ⟨RX5, "fall", "(LStageMachine$Thing;II)I"⟩
abbrev cX5_canFall : ByteArray := prog_7_method_21_code
def yX5_canFall : MethodName := ⟨RX5, "canFall", "(LStageMachine$Thing;I)Z"⟩
abbrev cX5_isCatch : ByteArray := prog_7_method_22_code
def yX5_isCatch : MethodName := ⟨RX5, "isCatch", "(II)Z"⟩
abbrev cX5_addCatch : ByteArray := prog_7_method_23_code
def yX5_addCatch : MethodName := ⟨RX5, "addCatch", "(I)I"⟩
abbrev cX5_isStagePlace : ByteArray := prog_7_method_24_code
def yX5_isStagePlace : MethodName := ⟨RX5, "isStagePlace", "(I)Z"⟩
abbrev cX5_keep : ByteArray := prog_7_method_25_code
def yX5_keep : MethodName := ⟨RX5, "keep", "()V"⟩
abbrev cX5_restore : ByteArray := prog_7_method_26_code
def yX5_restore : MethodName := ⟨RX5, "restore", "()V"⟩
def RX6 : String := "StageMachine$Stock"
def TX6 : u_T := fun k => match k with
  | 0 => ("StageMachine$Stock", "flats", "[LStageMachine$Panel;", true)
  | 1 => ("StageMachine$Stock", "wants", "[LStageMachine$Panel;", true)
  | 2 => ("StageMachine$Stock", "givenFlats", "[I", true)
  | 3 => ("StageMachine$Stock", "sums", "[I", true)
  | 4 => ("StageMachine$Stock", "flatCount", "I", false)
  | 5 => ("StageMachine$Stock", "wantCount", "I", false)
  | _ => ("StageMachine$Stock", "givenCount", "I", false)
def tyX6 : Nat → FieldType := fun k => match k with
  | 0 => .array (.object "StageMachine$Panel")
  | 1 => .array (.object "StageMachine$Panel")
  | 2 => .array .int
  | 3 => .array .int
  | 4 => .int
  | 5 => .int
  | _ => .int
abbrev wsX60 : List Cond := u_ws RX6 TX6 7
theorem nmX6 : ∀ a, a < 7 → ∀ b, b < 7 → a ≠ b → (TX6 a).2.1 ≠ (TX6 b).2.1 := by decide +kernel
theorem tyX6_ok : ∀ k, k < 7 → parseFieldDescriptor (TX6 k).2.2.1 = some (tyX6 k) := by decide +kernel
abbrev cX6_init : ByteArray := prog_8_method_1_code
def yX6_init : MethodName := ⟨RX6, "<init>", "()V"⟩
abbrev cX6_addFlat : ByteArray := prog_8_method_2_code
def yX6_addFlat : MethodName := ⟨RX6, "addFlat", "(II)I"⟩
abbrev cX6_addWant : ByteArray := prog_8_method_3_code
def yX6_addWant : MethodName := ⟨RX6, "addWant", "(II)I"⟩
abbrev cX6_isPanel : ByteArray := prog_8_method_4_code
def yX6_isPanel : MethodName := ⟨RX6, "isPanel", "(II)Z"⟩
abbrev cX6_leastPainting : ByteArray := prog_8_method_5_code
def yX6_leastPainting : MethodName := ⟨RX6, "leastPainting", "()I"⟩
abbrev cX6_leastSum : ByteArray := prog_8_method_6_code
def yX6_leastSum : MethodName := ⟨RX6, "leastSum", "()I"⟩
abbrev cX6_leastSumBehind : ByteArray := prog_8_method_7_code
def yX6_leastSumBehind : MethodName := ⟨RX6, "leastSumBehind", "(ILStageMachine$Panel;)I"⟩
abbrev cX6_sumWith : ByteArray := prog_8_method_8_code
def yX6_sumWith : MethodName := ⟨RX6, "sumWith", "(IILStageMachine$Panel;)I"⟩
abbrev cX6_give : ByteArray := prog_8_method_9_code
def yX6_give : MethodName := ⟨RX6, "give", "()V"⟩
abbrev cX6_givenTo : ByteArray := prog_8_method_10_code
def yX6_givenTo : MethodName := ⟨RX6, "givenTo", "(I)I"⟩
def RX7 : String := "StageMachine$Stop"
def TX7 : u_T := fun k => match k with
  | 0 => ("StageMachine$Stop", "kind", "I", false)
  | 1 => ("StageMachine$Stop", "thing", "I", false)
  | _ => ("StageMachine$Stop", "other", "I", false)
def tyX7 : Nat → FieldType := fun k => match k with
  | 0 => .int
  | 1 => .int
  | _ => .int
abbrev wsX70 : List Cond := u_ws RX7 TX7 3
theorem nmX7 : ∀ a, a < 3 → ∀ b, b < 3 → a ≠ b → (TX7 a).2.1 ≠ (TX7 b).2.1 := by decide +kernel
theorem tyX7_ok : ∀ k, k < 3 → parseFieldDescriptor (TX7 k).2.2.1 = some (tyX7 k) := by decide +kernel
abbrev cX7_init : ByteArray := prog_9_method_1_code
def yX7_init : MethodName := ⟨RX7, "<init>", "()V"⟩
abbrev cX7_put : ByteArray := prog_9_method_2_code
def yX7_put : MethodName := ⟨RX7, "put", "(III)V"⟩
abbrev cX7_tell : ByteArray := prog_9_method_3_code
def yX7_tell : MethodName := ⟨RX7, "tell", "(I)I"⟩
def RX8 : String := "StageMachine$Tape"
def TX8 : u_T := fun k => match k with
  | 0 => ("StageMachine$Tape", "bytes", "[I", true)
  | 1 => ("StageMachine$Tape", "letters", "[I", true)
  | 2 => ("StageMachine$Tape", "firsts", "[I", true)
  | 3 => ("StageMachine$Tape", "seconds", "[I", true)
  | 4 => ("StageMachine$Tape", "length", "I", false)
  | 5 => ("StageMachine$Tape", "lineCount", "I", false)
  | 6 => ("StageMachine$Tape", "next", "I", false)
  | _ => ("StageMachine$Tape", "number", "I", false)
def tyX8 : Nat → FieldType := fun k => match k with
  | 0 => .array .int
  | 1 => .array .int
  | 2 => .array .int
  | 3 => .array .int
  | 4 => .int
  | 5 => .int
  | 6 => .int
  | _ => .int
abbrev wsX80 : List Cond := u_ws RX8 TX8 8
theorem nmX8 : ∀ a, a < 8 → ∀ b, b < 8 → a ≠ b → (TX8 a).2.1 ≠ (TX8 b).2.1 := by decide +kernel
theorem tyX8_ok : ∀ k, k < 8 → parseFieldDescriptor (TX8 k).2.2.1 = some (tyX8 k) := by decide +kernel
abbrev cX8_init : ByteArray := prog_10_method_1_code
def yX8_init : MethodName := ⟨RX8, "<init>", "()V"⟩
abbrev cX8_take : ByteArray := prog_10_method_2_code
def yX8_take : MethodName := ⟨RX8, "take", "(II)I"⟩
abbrev cX8_readLines : ByteArray := prog_10_method_3_code
def yX8_readLines : MethodName := ⟨RX8, "readLines", "()I"⟩
abbrev cX8_readLine : ByteArray := prog_10_method_4_code
def yX8_readLine : MethodName := ⟨RX8, "readLine", "(I)Z"⟩
abbrev cX8_readOne : ByteArray := prog_10_method_5_code
def yX8_readOne : MethodName := ⟨RX8, "readOne", "(IZ)Z"⟩
abbrev cX8_readTwo : ByteArray := prog_10_method_6_code
def yX8_readTwo : MethodName := ⟨RX8, "readTwo", "(IZ)Z"⟩
abbrev cX8_readNumber : ByteArray := prog_10_method_7_code
def yX8_readNumber : MethodName := ⟨RX8, "readNumber", "(Z)Z"⟩
abbrev cX8_readSign : ByteArray := prog_10_method_8_code
def yX8_readSign : MethodName := ⟨RX8, "readSign", "(I)Z"⟩
abbrev cX8_peek : ByteArray := prog_10_method_9_code
def yX8_peek : MethodName := ⟨RX8, "peek", "()I"⟩
def RX9 : String := "StageMachine$Thing"
def TX9 : u_T := fun k => match k with
  | 0 => ("StageMachine$Thing", "number", "I", true)
  | 1 => ("StageMachine$Thing", "lane", "I", true)
  | 2 => ("StageMachine$Thing", "width", "I", true)
  | 3 => ("StageMachine$Thing", "weight", "I", true)
  | 4 => ("StageMachine$Thing", "least", "I", true)
  | 5 => ("StageMachine$Thing", "most", "I", true)
  | 6 => ("StageMachine$Thing", "sceneAt", "[I", true)
  | 7 => ("StageMachine$Thing", "at", "I", false)
  | 8 => ("StageMachine$Thing", "trialAt", "I", false)
  | 9 => ("StageMachine$Thing", "tied", "LStageMachine$Rope;", false)
  | 10 => ("StageMachine$Thing", "keptAt", "I", false)
  | _ => ("StageMachine$Thing", "keptTied", "LStageMachine$Rope;", false)
def tyX9 : Nat → FieldType := fun k => match k with
  | 0 => .int
  | 1 => .int
  | 2 => .int
  | 3 => .int
  | 4 => .int
  | 5 => .int
  | 6 => .array .int
  | 7 => .int
  | 8 => .int
  | 9 => .object "StageMachine$Rope"
  | 10 => .int
  | _ => .object "StageMachine$Rope"
abbrev wsX90 : List Cond := u_ws RX9 TX9 12
theorem nmX9 : ∀ a, a < 12 → ∀ b, b < 12 → a ≠ b → (TX9 a).2.1 ≠ (TX9 b).2.1 := by decide +kernel
theorem tyX9_ok : ∀ k, k < 12 → parseFieldDescriptor (TX9 k).2.2.1 = some (tyX9 k) := by decide +kernel
abbrev cX9_init : ByteArray := prog_11_method_1_code
def yX9_init : MethodName := ⟨RX9, "<init>", "(IIIIIII)V"⟩
abbrev cX9_tell : ByteArray := prog_11_method_2_code
def yX9_tell : MethodName := ⟨RX9, "tell", "(I)I"⟩
abbrev cX9_tellScene : ByteArray := prog_11_method_3_code
def yX9_tellScene : MethodName := ⟨RX9, "tellScene", "(II)I"⟩
abbrev cX9_covers : ByteArray := prog_11_method_4_code
def yX9_covers : MethodName := ⟨RX9, "covers", "(I)Z"⟩
abbrev cX9_wouldMeet : ByteArray := prog_11_method_5_code
def yX9_wouldMeet : MethodName := ⟨RX9, "wouldMeet", "(LStageMachine$Thing;)Z"⟩
def RX10 : String := "StageMachine$Turning"
def TX10 : u_T := fun k => match k with
  | 0 => ("StageMachine$Turning", "stage", "LStageMachine$Stage;", true)
  | 1 => ("StageMachine$Turning", "latest", "LStageMachine$Stop;", true)
  | _ => ("StageMachine$Turning", "ahead", "LStageMachine$Stop;", true)
def tyX10 : Nat → FieldType := fun k => match k with
  | 0 => .object "StageMachine$Stage"
  | 1 => .object "StageMachine$Stop"
  | _ => .object "StageMachine$Stop"
abbrev wsX100 : List Cond := u_ws RX10 TX10 3
theorem nmX10 : ∀ a, a < 3 → ∀ b, b < 3 → a ≠ b → (TX10 a).2.1 ≠ (TX10 b).2.1 := by decide +kernel
theorem tyX10_ok : ∀ k, k < 3 → parseFieldDescriptor (TX10 k).2.2.1 = some (tyX10 k) := by decide +kernel
abbrev cX10_init : ByteArray := prog_12_method_1_code
def yX10_init : MethodName := ⟨RX10, "<init>", "(LStageMachine$Stage;)V"⟩
abbrev cX10_turnBy : ByteArray := prog_12_method_2_code
def yX10_turnBy : MethodName := ⟨RX10, "turnBy", "(I)I"⟩
abbrev cX10_lookAhead : ByteArray := prog_12_method_3_code
def yX10_lookAhead : MethodName := ⟨RX10, "lookAhead", "(I)I"⟩
abbrev cX10_stepsToNextMove : ByteArray := prog_12_method_4_code
def yX10_stepsToNextMove : MethodName := ⟨RX10, "stepsToNextMove", "(II)I"⟩
abbrev cX10_isBeyond : ByteArray := prog_12_method_5_code
def yX10_isBeyond : MethodName := ⟨RX10, "isBeyond", "()Z"⟩
abbrev cX10_isMeeting : ByteArray := prog_12_method_6_code
def yX10_isMeeting : MethodName := ⟨RX10, "isMeeting", "()Z"⟩
abbrev cX10_isUneven : ByteArray := prog_12_method_7_code
def yX10_isUneven : MethodName := ⟨RX10, "isUneven", "(I)Z"⟩
def RX11 : String := "StageMachine"
def TX11 : u_T := fun k => match k with
  | 0 => ("StageMachine", "stage", "LStageMachine$Stage;", true)
  | 1 => ("StageMachine", "turning", "LStageMachine$Turning;", true)
  | 2 => ("StageMachine", "latestChange", "LStageMachine$Change;", true)
  | 3 => ("StageMachine", "tape", "LStageMachine$Tape;", true)
  | 4 => ("StageMachine", "candles", "LStageMachine$Candles;", true)
  | 5 => ("StageMachine", "stock", "LStageMachine$Stock;", true)
  | _ => ("StageMachine", "cueCanGoBack", "Z", false)
def tyX11 : Nat → FieldType := fun k => match k with
  | 0 => .object "StageMachine$Stage"
  | 1 => .object "StageMachine$Turning"
  | 2 => .object "StageMachine$Change"
  | 3 => .object "StageMachine$Tape"
  | 4 => .object "StageMachine$Candles"
  | 5 => .object "StageMachine$Stock"
  | _ => .boolean
abbrev wsX110 : List Cond := u_ws RX11 TX11 7
theorem nmX11 : ∀ a, a < 7 → ∀ b, b < 7 → a ≠ b → (TX11 a).2.1 ≠ (TX11 b).2.1 := by decide +kernel
theorem tyX11_ok : ∀ k, k < 7 → parseFieldDescriptor (TX11 k).2.2.1 = some (tyX11 k) := by decide +kernel
abbrev cX11_init : ByteArray := prog_1_method_1_code
def yX11_init : MethodName := ⟨RX11, "<init>", "()V"⟩
abbrev cX11_thing : ByteArray := prog_1_method_2_code
def yX11_thing : MethodName := ⟨RX11, "thing", "(IIII)I"⟩
abbrev cX11_ofThing : ByteArray := prog_1_method_3_code
def yX11_ofThing : MethodName := ⟨RX11, "ofThing", "(II)I"⟩
abbrev cX11_on : ByteArray := prog_1_method_4_code
def yX11_on : MethodName := ⟨RX11, "on", "(I)I"⟩
abbrev cX11_drum : ByteArray := prog_1_method_5_code
def yX11_drum : MethodName := ⟨RX11, "drum", "(I)I"⟩
abbrev cX11_rope : ByteArray := prog_1_method_6_code
def yX11_rope : MethodName := ⟨RX11, "rope", "(III)I"⟩
abbrev cX11_ofRope : ByteArray := prog_1_method_7_code
def yX11_ofRope : MethodName := ⟨RX11, "ofRope", "(II)I"⟩
abbrev cX11_tie : ByteArray := prog_1_method_8_code
def yX11_tie : MethodName := ⟨RX11, "tie", "(II)I"⟩
abbrev cX11_untie : ByteArray := prog_1_method_9_code
def yX11_untie : MethodName := ⟨RX11, "untie", "(I)I"⟩
abbrev cX11_weight : ByteArray := prog_1_method_10_code
def yX11_weight : MethodName := ⟨RX11, "weight", "(II)I"⟩
abbrev cX11_bound : ByteArray := prog_1_method_11_code
def yX11_bound : MethodName := ⟨RX11, "bound", "(I)I"⟩
abbrev cX11_pull : ByteArray := prog_1_method_12_code
def yX11_pull : MethodName := ⟨RX11, "pull", "()I"⟩
abbrev cX11_turn : ByteArray := prog_1_method_13_code
def yX11_turn : MethodName := ⟨RX11, "turn", "(I)I"⟩
abbrev cX11_stopped : ByteArray := prog_1_method_14_code
def yX11_stopped : MethodName := ⟨RX11, "stopped", "(I)I"⟩
abbrev cX11_free : ByteArray := prog_1_method_15_code
def yX11_free : MethodName := ⟨RX11, "free", "(I)I"⟩
abbrev cX11_snap : ByteArray := prog_1_method_16_code
def yX11_snap : MethodName := ⟨RX11, "snap", "(I)I"⟩
abbrev cX11_hold : ByteArray := prog_1_method_17_code
def yX11_hold : MethodName := ⟨RX11, "hold", "(I)I"⟩
abbrev cX11_scene : ByteArray := prog_1_method_18_code
def yX11_scene : MethodName := ⟨RX11, "scene", "(III)I"⟩
abbrev cX11_change : ByteArray := prog_1_method_19_code
def yX11_change : MethodName := ⟨RX11, "change", "(II)I"⟩
abbrev cX11_told : ByteArray := prog_1_method_20_code
def yX11_told : MethodName := ⟨RX11, "told", "(II)I"⟩
abbrev cX11_work : ByteArray := prog_1_method_21_code
def yX11_work : MethodName := ⟨RX11, "work", "(I)I"⟩
abbrev cX11_men : ByteArray := prog_1_method_22_code
def yX11_men : MethodName := ⟨RX11, "men", "(I)I"⟩
abbrev cX11_feed : ByteArray := prog_1_method_23_code
def yX11_feed : MethodName := ⟨RX11, "feed", "(II)I"⟩
abbrev cX11_play : ByteArray := prog_1_method_24_code
def yX11_play : MethodName := ⟨RX11, "play", "()I"⟩
abbrev cX11_back : ByteArray := prog_1_method_25_code
def yX11_back : MethodName := ⟨RX11, "back", "()I"⟩
abbrev cX11_candle : ByteArray := prog_1_method_26_code
def yX11_candle : MethodName := ⟨RX11, "candle", "(I)I"⟩
abbrev cX11_minutes : ByteArray := prog_1_method_27_code
def yX11_minutes : MethodName := ⟨RX11, "minutes", "(I)I"⟩
abbrev cX11_trim : ByteArray := prog_1_method_28_code
def yX11_trim : MethodName := ⟨RX11, "trim", "(I)I"⟩
abbrev cX11_light : ByteArray := prog_1_method_29_code
def yX11_light : MethodName := ⟨RX11, "light", "(I)I"⟩
abbrev cX11_flat : ByteArray := prog_1_method_30_code
def yX11_flat : MethodName := ⟨RX11, "flat", "(II)I"⟩
abbrev cX11_want : ByteArray := prog_1_method_31_code
def yX11_want : MethodName := ⟨RX11, "want", "(II)I"⟩
abbrev cX11_paint : ByteArray := prog_1_method_32_code
def yX11_paint : MethodName := ⟨RX11, "paint", "()I"⟩
abbrev cX11_given : ByteArray := prog_1_method_33_code
def yX11_given : MethodName := ⟨RX11, "given", "(I)I"⟩
abbrev cX11_count : ByteArray := prog_1_method_34_code
def yX11_count : MethodName := ⟨RX11, "count", "(I)I"⟩
abbrev cX11_deed : ByteArray := prog_1_method_35_code
def yX11_deed : MethodName := ⟨RX11, "deed", "(IZ)I"⟩
abbrev cX11_playLine : ByteArray := prog_1_method_36_code
def yX11_playLine : MethodName := ⟨RX11, "playLine", "(I)I"⟩
abbrev cX11_isTurn : ByteArray := prog_1_method_37_code
def yX11_isTurn : MethodName := ⟨RX11, "isTurn", "(I)Z"⟩
abbrev cX11_isWithin : ByteArray := prog_1_method_38_code
def yX11_isWithin : MethodName := ⟨RX11, "isWithin", "(III)Z"⟩
abbrev cX11_quotient : ByteArray := prog_1_method_39_code
def yX11_quotient : MethodName := ⟨RX11, "quotient", "(II)I"⟩
abbrev cX11_quotientUp : ByteArray := prog_1_method_40_code
def yX11_quotientUp : MethodName := ⟨RX11, "quotientUp", "(II)I"⟩
abbrev cX11_overlap : ByteArray := prog_1_method_41_code
def yX11_overlap : MethodName := ⟨RX11, "overlap", "(IIII)Z"⟩
def RX12 : String := "StageMachineModel"
def TX12 : u_T := fun k => match k with
  | 0 => ("StageMachineModel", "code", "I", false)
  | 1 => ("StageMachineModel", "things", "I", false)
  | 2 => ("StageMachineModel", "lane", "[I", true)
  | 3 => ("StageMachineModel", "width", "[I", true)
  | 4 => ("StageMachineModel", "weightOf", "[I", true)
  | 5 => ("StageMachineModel", "at", "[I", true)
  | 6 => ("StageMachineModel", "least", "[I", true)
  | 7 => ("StageMachineModel", "most", "[I", true)
  | 8 => ("StageMachineModel", "atThen", "[I", true)
  | 9 => ("StageMachineModel", "drums", "I", false)
  | 10 => ("StageMachineModel", "size", "[I", true)
  | 11 => ("StageMachineModel", "ropes", "I", false)
  | 12 => ("StageMachineModel", "ropeThing", "[I", true)
  | 13 => ("StageMachineModel", "gear", "[I", true)
  | 14 => ("StageMachineModel", "way", "[I", true)
  | 15 => ("StageMachineModel", "holds", "[I", true)
  | 16 => ("StageMachineModel", "drumOf", "[I", true)
  | 17 => ("StageMachineModel", "done", "[I", true)
  | 18 => ("StageMachineModel", "isGone", "[Z", true)
  | 19 => ("StageMachineModel", "counter", "[I", true)
  | 20 => ("StageMachineModel", "bound", "I", false)
  | 21 => ("StageMachineModel", "shaft", "I", false)
  | 22 => ("StageMachineModel", "wear", "I", false)
  | 23 => ("StageMachineModel", "why", "I", false)
  | 24 => ("StageMachineModel", "whyThing", "I", false)
  | 25 => ("StageMachineModel", "whyOther", "I", false)
  | 26 => ("StageMachineModel", "catches", "[I", true)
  | 27 => ("StageMachineModel", "catchAt", "[I", true)
  | 28 => ("StageMachineModel", "scenes", "[I", true)
  | 29 => ("StageMachineModel", "hasChange", "Z", false)
  | 30 => ("StageMachineModel", "isNone", "Z", false)
  | 31 => ("StageMachineModel", "toldRope", "[I", true)
  | 32 => ("StageMachineModel", "toldDrum", "[I", true)
  | 33 => ("StageMachineModel", "works", "[I", true)
  | 34 => ("StageMachineModel", "toldMany", "I", false)
  | 35 => ("StageMachineModel", "leastMen", "[I", true)
  | 36 => ("StageMachineModel", "tape", "[B", true)
  | 37 => ("StageMachineModel", "taped", "I", false)
  | 38 => ("StageMachineModel", "here", "I", false)
  | 39 => ("StageMachineModel", "lines", "I", false)
  | 40 => ("StageMachineModel", "lineWhat", "[I", true)
  | 41 => ("StageMachineModel", "lineA", "[I", true)
  | 42 => ("StageMachineModel", "lineB", "[I", true)
  | 43 => ("StageMachineModel", "canBack", "Z", false)
  | 44 => ("StageMachineModel", "keptAt", "[I", true)
  | 45 => ("StageMachineModel", "keptThen", "[I", true)
  | 46 => ("StageMachineModel", "keptDrum", "[I", true)
  | 47 => ("StageMachineModel", "keptDone", "[I", true)
  | 48 => ("StageMachineModel", "keptCounter", "[I", true)
  | 49 => ("StageMachineModel", "keptShaft", "I", false)
  | 50 => ("StageMachineModel", "keptWear", "I", false)
  | 51 => ("StageMachineModel", "number", "I", false)
  | 52 => ("StageMachineModel", "time", "I", false)
  | 53 => ("StageMachineModel", "candles", "I", false)
  | 54 => ("StageMachineModel", "burns", "[I", true)
  | 55 => ("StageMachineModel", "litAt", "[I", true)
  | 56 => ("StageMachineModel", "flats", "I", false)
  | 57 => ("StageMachineModel", "flatSize", "[I", true)
  | 58 => ("StageMachineModel", "flatPaint", "[I", true)
  | 59 => ("StageMachineModel", "wants", "I", false)
  | 60 => ("StageMachineModel", "wantSize", "[I", true)
  | 61 => ("StageMachineModel", "wantPaint", "[I", true)
  | 62 => ("StageMachineModel", "trial", "[I", true)
  | 63 => ("StageMachineModel", "givenMany", "I", false)
  | _ => ("StageMachineModel", "given", "[I", true)
def tyX12 : Nat → FieldType := fun k => match k with
  | 0 => .int
  | 1 => .int
  | 2 => .array .int
  | 3 => .array .int
  | 4 => .array .int
  | 5 => .array .int
  | 6 => .array .int
  | 7 => .array .int
  | 8 => .array .int
  | 9 => .int
  | 10 => .array .int
  | 11 => .int
  | 12 => .array .int
  | 13 => .array .int
  | 14 => .array .int
  | 15 => .array .int
  | 16 => .array .int
  | 17 => .array .int
  | 18 => .array .boolean
  | 19 => .array .int
  | 20 => .int
  | 21 => .int
  | 22 => .int
  | 23 => .int
  | 24 => .int
  | 25 => .int
  | 26 => .array .int
  | 27 => .array .int
  | 28 => .array .int
  | 29 => .boolean
  | 30 => .boolean
  | 31 => .array .int
  | 32 => .array .int
  | 33 => .array .int
  | 34 => .int
  | 35 => .array .int
  | 36 => .array .byte
  | 37 => .int
  | 38 => .int
  | 39 => .int
  | 40 => .array .int
  | 41 => .array .int
  | 42 => .array .int
  | 43 => .boolean
  | 44 => .array .int
  | 45 => .array .int
  | 46 => .array .int
  | 47 => .array .int
  | 48 => .array .int
  | 49 => .int
  | 50 => .int
  | 51 => .int
  | 52 => .int
  | 53 => .int
  | 54 => .array .int
  | 55 => .array .int
  | 56 => .int
  | 57 => .array .int
  | 58 => .array .int
  | 59 => .int
  | 60 => .array .int
  | 61 => .array .int
  | 62 => .array .int
  | 63 => .int
  | _ => .array .int
abbrev wsX120 : List Cond := u_ws RX12 TX12 65
def nkS (s : String) : Nat := s.toByteArray.data.toList.foldl (fun n c => 256 * n + c.toNat) 0
theorem nm_of {T : u_T} {N : Nat} (L : List Nat) (h1 : (List.range N).map (fun k => nkS (T k).2.1) = L) (h2 : L.Nodup) : ∀ a, a < N → ∀ b, b < N → a ≠ b → (T a).2.1 ≠ (T b).2.1 := by
  intro a ha b hb hab e
  have hl : a < L.length := by rw [← h1]; simpa using ha
  have ga : L[a]? = some (nkS (T a).2.1) := by rw [← h1]; simp [ha]
  have gb : L[b]? = some (nkS (T b).2.1) := by rw [← h1]; simp [hb]
  rw [← e] at gb
  exact hab ((List.getElem?_inj hl h2).mp (ga.trans gb.symm))
theorem nmX12 : ∀ a, a < 65 → ∀ b, b < 65 → a ≠ b → (TX12 a).2.1 ≠ (TX12 b).2.1 := nm_of [1668244581, 127991794263923, 1818324581, 512869299304, 8603398556016201574, 24948, 465557353332, 1836020596, 107152260228462, 431417027955, 1936292453, 491495908723, 2110958853951693876839, 1734697330, 7823737, 448545973363, 110442759147366, 1685024357, 115943840640613, 27988572849333618, 422776761956, 495672452724, 2003132786, 7825529, 8604260491527286375, 8604260470253708658, 27973175206241651, 27973175206232436, 126870740690291, 1925483414025384388453, 115943958081125, 8390043808950087781, 8390043808715404653, 512970877811, 8390043808865283705, 7810756277244355950, 1952542821, 499850962276, 1751478885, 465625310579, 7811896410188046708, 465625310529, 465625310530, 27973148882330475, 118083422536052, 7738715179640710510, 7738715179372934509, 7738715179372736101, 129834096126533693324158322, 1981111085983726659188, 7738715179690844530, 121450625394034, 1953066341, 27973149453477235, 422877228659, 465625694580, 439904990323, 7380381041596922469, 1889377546635791920756, 512735736947, 8602278209149041253, 2202183221529134329460, 500135715180, 1907614012537737145977, 444150998382] (by decide +kernel) (by decide +kernel)
theorem tyX12_ok : ∀ k, k < 65 → parseFieldDescriptor (TX12 k).2.2.1 = some (tyX12 k) := by decide +kernel
abbrev cX12_init : ByteArray := prog_14_method_1_code
def yX12_init : MethodName := ⟨RX12, "<init>", "()V"⟩
abbrev cX12_in : ByteArray := prog_14_method_3_code
def yX12_in : MethodName := ⟨RX12, "in", "(III)Z"⟩
abbrev cX12_isThing : ByteArray := prog_14_method_4_code
def yX12_isThing : MethodName := ⟨RX12, "isThing", "(I)Z"⟩
abbrev cX12_isRope : ByteArray := prog_14_method_5_code
def yX12_isRope : MethodName := ⟨RX12, "isRope", "(I)Z"⟩
abbrev cX12_isDrum : ByteArray := prog_14_method_6_code
def yX12_isDrum : MethodName := ⟨RX12, "isDrum", "(I)Z"⟩
abbrev cX12_meets : ByteArray := prog_14_method_7_code
def yX12_meets : MethodName := ⟨RX12, "meets", "(III)Z"⟩
abbrev cX12_other : ByteArray := prog_14_method_8_code
def yX12_other : MethodName := ⟨RX12, "other", "(II)I"⟩
abbrev cX12_thing : ByteArray := prog_14_method_9_code
def yX12_thing : MethodName := ⟨RX12, "thing", "(IIII)I"⟩
abbrev cX12_tiedTo : ByteArray := prog_14_method_10_code
def yX12_tiedTo : MethodName := ⟨RX12, "tiedTo", "(I)I"⟩
abbrev cX12_ofThing : ByteArray := prog_14_method_11_code
def yX12_ofThing : MethodName := ⟨RX12, "ofThing", "(II)I"⟩
abbrev cX12_on : ByteArray := prog_14_method_12_code
def yX12_on : MethodName := ⟨RX12, "on", "(I)I"⟩
abbrev cX12_drum : ByteArray := prog_14_method_13_code
def yX12_drum : MethodName := ⟨RX12, "drum", "(I)I"⟩
abbrev cX12_rope : ByteArray := prog_14_method_14_code
def yX12_rope : MethodName := ⟨RX12, "rope", "(III)I"⟩
abbrev cX12_load : ByteArray := prog_14_method_15_code
def yX12_load : MethodName := ⟨RX12, "load", "(I)I"⟩
abbrev cX12_ofRope : ByteArray := prog_14_method_16_code
def yX12_ofRope : MethodName := ⟨RX12, "ofRope", "(II)I"⟩
abbrev cX12_tieNow : ByteArray := prog_14_method_17_code
def yX12_tieNow : MethodName := ⟨RX12, "tieNow", "(II)I"⟩
abbrev cX12_tie : ByteArray := prog_14_method_18_code
def yX12_tie : MethodName := ⟨RX12, "tie", "(II)I"⟩
abbrev cX12_untieNow : ByteArray := prog_14_method_19_code
def yX12_untieNow : MethodName := ⟨RX12, "untieNow", "(I)I"⟩
abbrev cX12_untie : ByteArray := prog_14_method_20_code
def yX12_untie : MethodName := ⟨RX12, "untie", "(I)I"⟩
abbrev cX12_weighNow : ByteArray := prog_14_method_21_code
def yX12_weighNow : MethodName := ⟨RX12, "weighNow", "(II)I"⟩
abbrev cX12_weight : ByteArray := prog_14_method_22_code
def yX12_weight : MethodName := ⟨RX12, "weight", "(II)I"⟩
abbrev cX12_bound : ByteArray := prog_14_method_23_code
def yX12_bound : MethodName := ⟨RX12, "bound", "(I)I"⟩
abbrev cX12_pull : ByteArray := prog_14_method_24_code
def yX12_pull : MethodName := ⟨RX12, "pull", "()I"⟩
abbrev cX12_place : ByteArray := prog_14_method_25_code
def yX12_place : MethodName := ⟨RX12, "place", "(I)V"⟩
abbrev cX12_find : ByteArray := prog_14_method_26_code
def yX12_find : MethodName := ⟨RX12, "find", "()V"⟩
abbrev cX12_turnNow : ByteArray := prog_14_method_27_code
def yX12_turnNow : MethodName := ⟨RX12, "turnNow", "(I)I"⟩
abbrev cX12_isTurn : ByteArray := prog_14_method_28_code
def yX12_isTurn : MethodName := ⟨RX12, "isTurn", "(I)Z"⟩
abbrev cX12_turn : ByteArray := prog_14_method_29_code
def yX12_turn : MethodName := ⟨RX12, "turn", "(I)I"⟩
abbrev cX12_stopped : ByteArray := prog_14_method_30_code
def yX12_stopped : MethodName := ⟨RX12, "stopped", "(I)I"⟩
abbrev cX12_free : ByteArray := prog_14_method_31_code
def yX12_free : MethodName := ⟨RX12, "free", "(I)I"⟩
abbrev cX12_isCaught : ByteArray := prog_14_method_32_code
def yX12_isCaught : MethodName := ⟨RX12, "isCaught", "(II)Z"⟩
abbrev cX12_hold : ByteArray := prog_14_method_33_code
def yX12_hold : MethodName := ⟨RX12, "hold", "(I)I"⟩
abbrev cX12_snap : ByteArray := prog_14_method_34_code
def yX12_snap : MethodName := ⟨RX12, "snap", "(I)I"⟩
abbrev cX12_scene : ByteArray := prog_14_method_35_code
def yX12_scene : MethodName := ⟨RX12, "scene", "(III)I"⟩
abbrev cX12_brings : ByteArray := prog_14_method_36_code
def yX12_brings : MethodName := ⟨RX12, "brings", "(III)Z"⟩
abbrev cX12_workOf : ByteArray := prog_14_method_37_code
def yX12_workOf : MethodName := ⟨RX12, "workOf", "(I)I"⟩
abbrev cX12_change : ByteArray := prog_14_method_38_code
def yX12_change : MethodName := ⟨RX12, "change", "(II)I"⟩
abbrev cX12_told : ByteArray := prog_14_method_39_code
def yX12_told : MethodName := ⟨RX12, "told", "(II)I"⟩
abbrev cX12_work : ByteArray := prog_14_method_40_code
def yX12_work : MethodName := ⟨RX12, "work", "(I)I"⟩
abbrev cX12_menFor : ByteArray := prog_14_method_41_code
def yX12_menFor : MethodName := ⟨RX12, "menFor", "(IIII)I"⟩
abbrev cX12_men : ByteArray := prog_14_method_42_code
def yX12_men : MethodName := ⟨RX12, "men", "(I)I"⟩
abbrev cX12_feed : ByteArray := prog_14_method_43_code
def yX12_feed : MethodName := ⟨RX12, "feed", "(II)I"⟩
abbrev cX12_look : ByteArray := prog_14_method_44_code
def yX12_look : MethodName := ⟨RX12, "look", "()I"⟩
abbrev cX12_takes : ByteArray := prog_14_method_45_code
def yX12_takes : MethodName := ⟨RX12, "takes", "(Z)Z"⟩
abbrev cX12_line : ByteArray := prog_14_method_46_code
def yX12_line : MethodName := ⟨RX12, "line", "()Z"⟩
abbrev cX12_keep : ByteArray := prog_14_method_47_code
def yX12_keep : MethodName := ⟨RX12, "keep", "()V"⟩
abbrev cX12_play : ByteArray := prog_14_method_48_code
def yX12_play : MethodName := ⟨RX12, "play", "()I"⟩
abbrev cX12_back : ByteArray := prog_14_method_49_code
def yX12_back : MethodName := ⟨RX12, "back", "()I"⟩
abbrev cX12_left : ByteArray := prog_14_method_50_code
def yX12_left : MethodName := ⟨RX12, "left", "(I)I"⟩
abbrev cX12_candle : ByteArray := prog_14_method_51_code
def yX12_candle : MethodName := ⟨RX12, "candle", "(I)I"⟩
abbrev cX12_minutes : ByteArray := prog_14_method_52_code
def yX12_minutes : MethodName := ⟨RX12, "minutes", "(I)I"⟩
abbrev cX12_trim : ByteArray := prog_14_method_53_code
def yX12_trim : MethodName := ⟨RX12, "trim", "(I)I"⟩
abbrev cX12_light : ByteArray := prog_14_method_54_code
def yX12_light : MethodName := ⟨RX12, "light", "(I)I"⟩
abbrev cX12_isSize : ByteArray := prog_14_method_55_code
def yX12_isSize : MethodName := ⟨RX12, "isSize", "(I)Z"⟩
abbrev cX12_flat : ByteArray := prog_14_method_56_code
def yX12_flat : MethodName := ⟨RX12, "flat", "(II)I"⟩
abbrev cX12_want : ByteArray := prog_14_method_57_code
def yX12_want : MethodName := ⟨RX12, "want", "(II)I"⟩
abbrev cX12_area : ByteArray := prog_14_method_58_code
def yX12_area : MethodName := ⟨RX12, "area", "(I)I"⟩
abbrev cX12_cost : ByteArray := prog_14_method_59_code
def yX12_cost : MethodName := ⟨RX12, "cost", "(II)I"⟩
abbrev cX12_isTaken : ByteArray := prog_14_method_60_code
def yX12_isTaken : MethodName := ⟨RX12, "isTaken", "(I)Z"⟩
abbrev cX12_costTo : ByteArray := prog_14_method_61_code
def yX12_costTo : MethodName := ⟨RX12, "costTo", "(I)I"⟩
abbrev cX12_paint : ByteArray := prog_14_method_62_code
def yX12_paint : MethodName := ⟨RX12, "paint", "()I"⟩
abbrev cX12_given : ByteArray := prog_14_method_63_code
def yX12_given : MethodName := ⟨RX12, "given", "(I)I"⟩
abbrev cX12_count : ByteArray := prog_14_method_64_code
def yX12_count : MethodName := ⟨RX12, "count", "(I)I"⟩
def RJ6 : String := "java/lang/Integer"
def TJ6 : u_T := fun k => match k with
  | _ => ("", "", "", false)
def tyJ6 : Nat → FieldType := fun k => match k with
  | _ => .int
abbrev wsJ60 : List Cond := u_ws RJ6 TJ6 0
theorem nmJ6 : ∀ a, a < 0 → ∀ b, b < 0 → a ≠ b → (TJ6 a).2.1 ≠ (TJ6 b).2.1 := by decide +kernel
theorem tyJ6_ok : ∀ k, k < 0 → parseFieldDescriptor (TJ6 k).2.2.1 = some (tyJ6 k) := by decide +kernel
abbrev cJ6_bitCount_0f7a4 : ByteArray := prog_15_method_49_code
def yJ6_bitCount_0f7a4 : MethodName := ⟨RJ6, "bitCount", "(I)I"⟩
def RJ9 : String := "java/lang/Math"
def TJ9 : u_T := fun k => match k with
  | _ => ("", "", "", false)
def tyJ9 : Nat → FieldType := fun k => match k with
  | _ => .int
abbrev wsJ90 : List Cond := u_ws RJ9 TJ9 0
theorem nmJ9 : ∀ a, a < 0 → ∀ b, b < 0 → a ≠ b → (TJ9 a).2.1 ≠ (TJ9 b).2.1 := by decide +kernel
theorem tyJ9_ok : ∀ k, k < 0 → parseFieldDescriptor (TJ9 k).2.2.1 = some (tyJ9 k) := by decide +kernel
abbrev cJ9_abs_0f7a4 : ByteArray := prog_16_method_59_code
def yJ9_abs_0f7a4 : MethodName := ⟨RJ9, "abs", "(I)I"⟩
abbrev cJ9_max_7cf53 : ByteArray := prog_16_method_65_code
def yJ9_max_7cf53 : MethodName := ⟨RJ9, "max", "(II)I"⟩
abbrev cJ9_min_7cf53 : ByteArray := prog_16_method_69_code
def yJ9_min_7cf53 : MethodName := ⟨RJ9, "min", "(II)I"⟩
def RJ10 : String := "java/lang/System"
def TJ10 : u_T := fun k => match k with
  | _ => ("", "", "", false)
def tyJ10 : Nat → FieldType := fun k => match k with
  | _ => .int
abbrev wsJ100 : List Cond := u_ws RJ10 TJ10 0
theorem nmJ10 : ∀ a, a < 0 → ∀ b, b < 0 → a ≠ b → (TJ10 a).2.1 ≠ (TJ10 b).2.1 := by decide +kernel
theorem tyJ10_ok : ∀ k, k < 0 → parseFieldDescriptor (TJ10 k).2.2.1 = some (tyJ10 k) := by decide +kernel
def RJ7 : String := "java/util/Arrays"
def TJ7 : u_T := fun k => match k with
  | _ => ("", "", "", false)
def tyJ7 : Nat → FieldType := fun k => match k with
  | _ => .int
abbrev wsJ70 : List Cond := u_ws RJ7 TJ7 0
theorem nmJ7 : ∀ a, a < 0 → ∀ b, b < 0 → a ≠ b → (TJ7 a).2.1 ≠ (TJ7 b).2.1 := by decide +kernel
theorem tyJ7_ok : ∀ k, k < 0 → parseFieldDescriptor (TJ7 k).2.2.1 = some (tyJ7 k) := by decide +kernel
abbrev cJ7_fill_53178 : ByteArray := prog_18_method_103_code
def yJ7_fill_53178 : MethodName := ⟨RJ7, "fill", "([II)V"⟩
def RL : String := "StageMachineLaw"
abbrev cL_law : ByteArray := code
def yL_law : MethodName := ⟨RL, "law", "([I)Z"⟩
