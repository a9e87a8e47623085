theorem ti_in {w : Cond} (h : w ∈ tables_1) : w ∈ lw_tbl := List.mem_append_right _ h
theorem gt_in {w : Cond} (h : w ∈ tables_1) (hg : goodWord w = true) : w ∈ gtb := List.mem_filter.mpr ⟨List.mem_append_right _ h, hg⟩
theorem wd_0 : Cond.initialized "StageMachineLaw" ∈ gtb := gt_in (tb_1_0 (i := 0) rfl) (by decide +kernel)
theorem wd_1 : Cond.initialized "StageMachine" ∈ gtb := gt_in (tb_1_0 (i := 1) rfl) (by decide +kernel)
theorem wd_2 : Cond.initialized "StageMachine$Tape" ∈ gtb := gt_in (tb_1_0 (i := 2) rfl) (by decide +kernel)
theorem wd_3 : Cond.initialized "StageMachine$Candles" ∈ gtb := gt_in (tb_1_0 (i := 3) rfl) (by decide +kernel)
theorem wd_4 : Cond.initialized "StageMachine$Stock" ∈ gtb := gt_in (tb_1_0 (i := 4) rfl) (by decide +kernel)
theorem wd_5 : Cond.initialized "StageMachine$Stage" ∈ gtb := gt_in (tb_1_0 (i := 5) rfl) (by decide +kernel)
theorem wd_6 : Cond.initialized "StageMachine$Turning" ∈ gtb := gt_in (tb_1_0 (i := 6) rfl) (by decide +kernel)
theorem wd_7 : Cond.initialized "StageMachine$Stop" ∈ gtb := gt_in (tb_1_0 (i := 7) rfl) (by decide +kernel)
theorem wd_8 : Cond.initialized "StageMachine$Change" ∈ gtb := gt_in (tb_1_0 (i := 8) rfl) (by decide +kernel)
theorem wd_9 : Cond.initialized "StageMachineModel" ∈ gtb := gt_in (tb_1_0 (i := 9) rfl) (by decide +kernel)
theorem wd_10 : Cond.initialized "StageMachine$Thing" ∈ gtb := gt_in (tb_1_0 (i := 10) rfl) (by decide +kernel)
theorem wd_11 : Cond.initialized "java/util/Arrays" ∈ gtb := gt_in (tb_1_0 (i := 11) rfl) (by decide +kernel)
theorem wd_12 : Cond.initialized "StageMachine$Drum" ∈ gtb := gt_in (tb_1_0 (i := 12) rfl) (by decide +kernel)
theorem wd_13 : Cond.initialized "StageMachine$Rope" ∈ gtb := gt_in (tb_1_0 (i := 13) rfl) (by decide +kernel)
theorem wd_14 : Cond.initialized "java/lang/Math" ∈ gtb := gt_in (tb_1_0 (i := 14) rfl) (by decide +kernel)
theorem wd_15 : Cond.initialized "java/lang/System" ∈ gtb := gt_in (tb_1_0 (i := 15) rfl) (by decide +kernel)
theorem wd_16 : Cond.initialized "StageMachine$Panel" ∈ gtb := gt_in (tb_1_1 (i := 0) rfl) (by decide +kernel)
theorem wd_17 : Cond.initialized "java/lang/Integer" ∈ gtb := gt_in (tb_1_1 (i := 1) rfl) (by decide +kernel)
theorem wd_18 : Cond.classLink "StageMachineLaw" 7 "StageMachine" ∈ gtb := gt_in (tb_1_1 (i := 2) rfl) (by decide +kernel)
theorem wd_19 : Cond.instantiable "StageMachine" 7 ∈ gtb := gt_in (tb_1_1 (i := 3) rfl) (by decide +kernel)
theorem wd_20 : Cond.methodLink "StageMachineLaw" 9 ⟨"StageMachine", "<init>", "()V"⟩ ∈ gtb := gt_in (tb_1_1 (i := 4) rfl) (by decide +kernel)
theorem wd_21 : Cond.instanceMethod ⟨"StageMachine", "<init>", "()V"⟩ ∈ gtb := gt_in (tb_1_1 (i := 5) rfl) (by decide +kernel)
theorem wd_22 : Cond.code ⟨"StageMachine", "<init>", "()V"⟩ prog_1_method_1_code 2 none ∈ gtb := gt_in (tb_1_1 (i := 6) rfl) (by decide +kernel)
theorem wd_23 : Cond.methodLink "StageMachine" 1 ⟨"java/lang/Object", "<init>", "()V"⟩ ∈ gtb := gt_in (tb_1_1 (i := 7) rfl) (by decide +kernel)
theorem wd_24 : Cond.instanceMethod ⟨"java/lang/Object", "<init>", "()V"⟩ ∈ gtb := gt_in (tb_1_1 (i := 8) rfl) (by decide +kernel)
theorem wd_25 : Cond.code ⟨"java/lang/Object", "<init>", "()V"⟩ object_method_1_code 1 none ∈ gtb := gt_in (tb_1_1 (i := 9) rfl) (by decide +kernel)
theorem wd_26 : Cond.classLink "StageMachine" 7 "StageMachine$Tape" ∈ gtb := gt_in (tb_1_1 (i := 10) rfl) (by decide +kernel)
theorem wd_27 : Cond.instantiable "StageMachine$Tape" 8 ∈ gtb := gt_in (tb_1_1 (i := 11) rfl) (by decide +kernel)
theorem wd_29 : Cond.instanceMethod ⟨"StageMachine$Tape", "<init>", "()V"⟩ ∈ gtb := gt_in (tb_1_1 (i := 13) rfl) (by decide +kernel)
theorem wd_30 : Cond.code ⟨"StageMachine$Tape", "<init>", "()V"⟩ prog_10_method_1_code 1 none ∈ gtb := gt_in (tb_1_1 (i := 14) rfl) (by decide +kernel)
theorem wd_31 : Cond.methodLink "StageMachine$Tape" 3 ⟨"java/lang/Object", "<init>", "()V"⟩ ∈ gtb := gt_in (tb_1_1 (i := 15) rfl) (by decide +kernel)
theorem wd_32 : Cond.fieldLink "StageMachine$Tape" 9 "StageMachine$Tape" "bytes" "[I" ∈ gtb := gt_in (tb_1_2 (i := 0) rfl) (by decide +kernel)
theorem wd_33 : Cond.fieldLink "StageMachine$Tape" 15 "StageMachine$Tape" "letters" "[I" ∈ gtb := gt_in (tb_1_2 (i := 1) rfl) (by decide +kernel)
theorem wd_34 : Cond.fieldLink "StageMachine" 226 "StageMachine$Tape" "letters" "[I" ∈ gtb := gt_in (tb_1_2 (i := 2) rfl) (by decide +kernel)
theorem wd_35 : Cond.fieldLink "StageMachine$Tape" 18 "StageMachine$Tape" "firsts" "[I" ∈ gtb := gt_in (tb_1_2 (i := 3) rfl) (by decide +kernel)
theorem wd_36 : Cond.fieldLink "StageMachine" 219 "StageMachine$Tape" "firsts" "[I" ∈ gtb := gt_in (tb_1_2 (i := 4) rfl) (by decide +kernel)
theorem wd_37 : Cond.fieldLink "StageMachine$Tape" 21 "StageMachine$Tape" "seconds" "[I" ∈ gtb := gt_in (tb_1_2 (i := 5) rfl) (by decide +kernel)
theorem wd_38 : Cond.fieldLink "StageMachine" 223 "StageMachine$Tape" "seconds" "[I" ∈ gtb := gt_in (tb_1_2 (i := 6) rfl) (by decide +kernel)
theorem wd_39 : Cond.fieldLink "StageMachine$Tape" 28 "StageMachine$Tape" "length" "I" ∈ gtb := gt_in (tb_1_2 (i := 7) rfl) (by decide +kernel)
theorem wd_40 : Cond.fieldLink "StageMachine" 150 "StageMachine$Tape" "length" "I" ∈ gtb := gt_in (tb_1_2 (i := 8) rfl) (by decide +kernel)
theorem wd_41 : Cond.fieldLink "StageMachine$Tape" 35 "StageMachine$Tape" "lineCount" "I" ∈ gtb := gt_in (tb_1_2 (i := 9) rfl) (by decide +kernel)
theorem wd_42 : Cond.fieldLink "StageMachine" 161 "StageMachine$Tape" "lineCount" "I" ∈ gtb := gt_in (tb_1_2 (i := 10) rfl) (by decide +kernel)
theorem wd_43 : Cond.fieldLink "StageMachine$Tape" 32 "StageMachine$Tape" "next" "I" ∈ gtb := gt_in (tb_1_2 (i := 11) rfl) (by decide +kernel)
theorem wd_44 : Cond.fieldLink "StageMachine$Tape" 57 "StageMachine$Tape" "number" "I" ∈ gtb := gt_in (tb_1_2 (i := 12) rfl) (by decide +kernel)
theorem wd_62 : Cond.arrayClass FieldType.int ∈ gtb := gt_in (tb_1_3 (i := 14) rfl) (by decide +kernel)
theorem wd_63 : Cond.classLink "StageMachine" 16 "StageMachine$Candles" ∈ gtb := gt_in (tb_1_3 (i := 15) rfl) (by decide +kernel)
theorem wd_64 : Cond.instantiable "StageMachine$Candles" 4 ∈ gtb := gt_in (tb_1_4 (i := 0) rfl) (by decide +kernel)
theorem wd_66 : Cond.instanceMethod ⟨"StageMachine$Candles", "<init>", "()V"⟩ ∈ gtb := gt_in (tb_1_4 (i := 2) rfl) (by decide +kernel)
theorem wd_67 : Cond.code ⟨"StageMachine$Candles", "<init>", "()V"⟩ prog_2_method_1_code 1 none ∈ gtb := gt_in (tb_1_4 (i := 3) rfl) (by decide +kernel)
theorem wd_68 : Cond.methodLink "StageMachine$Candles" 3 ⟨"java/lang/Object", "<init>", "()V"⟩ ∈ gtb := gt_in (tb_1_4 (i := 4) rfl) (by decide +kernel)
theorem wd_69 : Cond.fieldLink "StageMachine$Candles" 9 "StageMachine$Candles" "lengths" "[I" ∈ gtb := gt_in (tb_1_4 (i := 5) rfl) (by decide +kernel)
theorem wd_70 : Cond.fieldLink "StageMachine$Candles" 15 "StageMachine$Candles" "ends" "[I" ∈ gtb := gt_in (tb_1_4 (i := 6) rfl) (by decide +kernel)
theorem wd_71 : Cond.fieldLink "StageMachine$Candles" 22 "StageMachine$Candles" "number" "I" ∈ gtb := gt_in (tb_1_4 (i := 7) rfl) (by decide +kernel)
theorem wd_72 : Cond.fieldLink "StageMachine" 210 "StageMachine$Candles" "number" "I" ∈ gtb := gt_in (tb_1_4 (i := 8) rfl) (by decide +kernel)
theorem wd_73 : Cond.fieldLink "StageMachine$Candles" 26 "StageMachine$Candles" "time" "I" ∈ gtb := gt_in (tb_1_4 (i := 9) rfl) (by decide +kernel)
theorem wd_74 : Cond.fieldLink "StageMachine" 207 "StageMachine$Candles" "time" "I" ∈ gtb := gt_in (tb_1_4 (i := 10) rfl) (by decide +kernel)
theorem wd_84 : Cond.classLink "StageMachine" 23 "StageMachine$Stock" ∈ gtb := gt_in (tb_1_5 (i := 4) rfl) (by decide +kernel)
theorem wd_85 : Cond.instantiable "StageMachine$Stock" 7 ∈ gtb := gt_in (tb_1_5 (i := 5) rfl) (by decide +kernel)
theorem wd_87 : Cond.instanceMethod ⟨"StageMachine$Stock", "<init>", "()V"⟩ ∈ gtb := gt_in (tb_1_5 (i := 7) rfl) (by decide +kernel)
theorem wd_88 : Cond.code ⟨"StageMachine$Stock", "<init>", "()V"⟩ prog_8_method_1_code 1 none ∈ gtb := gt_in (tb_1_5 (i := 8) rfl) (by decide +kernel)
theorem wd_89 : Cond.methodLink "StageMachine$Stock" 3 ⟨"java/lang/Object", "<init>", "()V"⟩ ∈ gtb := gt_in (tb_1_5 (i := 9) rfl) (by decide +kernel)
theorem wd_90 : Cond.classLink "StageMachine$Stock" 9 "StageMachine$Panel" ∈ gtb := gt_in (tb_1_5 (i := 10) rfl) (by decide +kernel)
theorem wd_92 : Cond.fieldLink "StageMachine$Stock" 11 "StageMachine$Stock" "flats" "[LStageMachine$Panel;" ∈ gtb := gt_in (tb_1_5 (i := 12) rfl) (by decide +kernel)
theorem wd_93 : Cond.fieldLink "StageMachine$Stock" 17 "StageMachine$Stock" "wants" "[LStageMachine$Panel;" ∈ gtb := gt_in (tb_1_5 (i := 13) rfl) (by decide +kernel)
theorem wd_94 : Cond.fieldLink "StageMachine$Stock" 20 "StageMachine$Stock" "givenFlats" "[I" ∈ gtb := gt_in (tb_1_5 (i := 14) rfl) (by decide +kernel)
theorem wd_95 : Cond.fieldLink "StageMachine$Stock" 24 "StageMachine$Stock" "sums" "[I" ∈ gtb := gt_in (tb_1_5 (i := 15) rfl) (by decide +kernel)
theorem wd_96 : Cond.fieldLink "StageMachine$Stock" 31 "StageMachine$Stock" "flatCount" "I" ∈ gtb := gt_in (tb_1_6 (i := 0) rfl) (by decide +kernel)
theorem wd_97 : Cond.fieldLink "StageMachine" 213 "StageMachine$Stock" "flatCount" "I" ∈ gtb := gt_in (tb_1_6 (i := 1) rfl) (by decide +kernel)
theorem wd_98 : Cond.fieldLink "StageMachine$Stock" 38 "StageMachine$Stock" "wantCount" "I" ∈ gtb := gt_in (tb_1_6 (i := 2) rfl) (by decide +kernel)
theorem wd_99 : Cond.fieldLink "StageMachine$Stock" 81 "StageMachine$Stock" "givenCount" "I" ∈ gtb := gt_in (tb_1_6 (i := 3) rfl) (by decide +kernel)
theorem wd_115 : Cond.classLink "StageMachine" 30 "StageMachine$Stage" ∈ gtb := gt_in (tb_1_7 (i := 3) rfl) (by decide +kernel)
theorem wd_116 : Cond.instantiable "StageMachine$Stage" 15 ∈ gtb := gt_in (tb_1_7 (i := 4) rfl) (by decide +kernel)
theorem wd_118 : Cond.instanceMethod ⟨"StageMachine$Stage", "<init>", "()V"⟩ ∈ gtb := gt_in (tb_1_7 (i := 6) rfl) (by decide +kernel)
theorem wd_119 : Cond.code ⟨"StageMachine$Stage", "<init>", "()V"⟩ prog_7_method_1_code 1 none ∈ gtb := gt_in (tb_1_7 (i := 7) rfl) (by decide +kernel)
theorem wd_120 : Cond.methodLink "StageMachine$Stage" 3 ⟨"java/lang/Object", "<init>", "()V"⟩ ∈ gtb := gt_in (tb_1_7 (i := 8) rfl) (by decide +kernel)
theorem wd_121 : Cond.classLink "StageMachine$Stage" 9 "StageMachine$Thing" ∈ gtb := gt_in (tb_1_7 (i := 9) rfl) (by decide +kernel)
theorem wd_123 : Cond.classLink "StageMachine$Stage" 17 "StageMachine$Drum" ∈ gtb := gt_in (tb_1_7 (i := 11) rfl) (by decide +kernel)
theorem wd_125 : Cond.classLink "StageMachine$Stage" 23 "StageMachine$Rope" ∈ gtb := gt_in (tb_1_7 (i := 13) rfl) (by decide +kernel)
theorem wd_127 : Cond.constant "StageMachine$Stage" 42 (99999) ∈ gtb := gt_in (tb_1_7 (i := 15) rfl) (by decide +kernel)
theorem wd_128 : Cond.fieldLink "StageMachine$Stage" 11 "StageMachine$Stage" "things" "[LStageMachine$Thing;" ∈ gtb := gt_in (tb_1_8 (i := 0) rfl) (by decide +kernel)
theorem wd_129 : Cond.fieldLink "StageMachine$Change" 52 "StageMachine$Stage" "things" "[LStageMachine$Thing;" ∈ gtb := gt_in (tb_1_8 (i := 1) rfl) (by decide +kernel)
theorem wd_130 : Cond.fieldLink "StageMachine$Turning" 97 "StageMachine$Stage" "things" "[LStageMachine$Thing;" ∈ gtb := gt_in (tb_1_8 (i := 2) rfl) (by decide +kernel)
theorem wd_131 : Cond.fieldLink "StageMachine$Stage" 19 "StageMachine$Stage" "drums" "[LStageMachine$Drum;" ∈ gtb := gt_in (tb_1_8 (i := 3) rfl) (by decide +kernel)
theorem wd_132 : Cond.fieldLink "StageMachine$Change" 100 "StageMachine$Stage" "drums" "[LStageMachine$Drum;" ∈ gtb := gt_in (tb_1_8 (i := 4) rfl) (by decide +kernel)
theorem wd_133 : Cond.fieldLink "StageMachine$Stage" 25 "StageMachine$Stage" "ropes" "[LStageMachine$Rope;" ∈ gtb := gt_in (tb_1_8 (i := 5) rfl) (by decide +kernel)
theorem wd_134 : Cond.fieldLink "StageMachine$Change" 74 "StageMachine$Stage" "ropes" "[LStageMachine$Rope;" ∈ gtb := gt_in (tb_1_8 (i := 6) rfl) (by decide +kernel)
theorem wd_135 : Cond.fieldLink "StageMachine$Turning" 82 "StageMachine$Stage" "ropes" "[LStageMachine$Rope;" ∈ gtb := gt_in (tb_1_8 (i := 7) rfl) (by decide +kernel)
theorem wd_136 : Cond.fieldLink "StageMachine$Stage" 29 "StageMachine$Stage" "weights" "[I" ∈ gtb := gt_in (tb_1_8 (i := 8) rfl) (by decide +kernel)
theorem wd_137 : Cond.fieldLink "StageMachine$Stage" 33 "StageMachine$Stage" "keptWeights" "[I" ∈ gtb := gt_in (tb_1_8 (i := 9) rfl) (by decide +kernel)
theorem wd_138 : Cond.fieldLink "StageMachine$Stage" 36 "StageMachine$Stage" "catches" "[I" ∈ gtb := gt_in (tb_1_8 (i := 10) rfl) (by decide +kernel)
theorem wd_139 : Cond.fieldLink "StageMachine$Stage" 39 "StageMachine$Stage" "catchCounts" "[I" ∈ gtb := gt_in (tb_1_8 (i := 11) rfl) (by decide +kernel)
theorem wd_140 : Cond.fieldLink "StageMachine$Stage" 47 "StageMachine$Stage" "thingCount" "I" ∈ gtb := gt_in (tb_1_8 (i := 12) rfl) (by decide +kernel)
theorem wd_141 : Cond.fieldLink "StageMachine$Change" 46 "StageMachine$Stage" "thingCount" "I" ∈ gtb := gt_in (tb_1_8 (i := 13) rfl) (by decide +kernel)
theorem wd_142 : Cond.fieldLink "StageMachine$Turning" 94 "StageMachine$Stage" "thingCount" "I" ∈ gtb := gt_in (tb_1_8 (i := 14) rfl) (by decide +kernel)
theorem wd_143 : Cond.fieldLink "StageMachine" 192 "StageMachine$Stage" "thingCount" "I" ∈ gtb := gt_in (tb_1_8 (i := 15) rfl) (by decide +kernel)
theorem wd_144 : Cond.fieldLink "StageMachine$Stage" 54 "StageMachine$Stage" "drumCount" "I" ∈ gtb := gt_in (tb_1_9 (i := 0) rfl) (by decide +kernel)
theorem wd_145 : Cond.fieldLink "StageMachine$Change" 97 "StageMachine$Stage" "drumCount" "I" ∈ gtb := gt_in (tb_1_9 (i := 1) rfl) (by decide +kernel)
theorem wd_146 : Cond.fieldLink "StageMachine" 195 "StageMachine$Stage" "drumCount" "I" ∈ gtb := gt_in (tb_1_9 (i := 2) rfl) (by decide +kernel)
theorem wd_147 : Cond.fieldLink "StageMachine$Change" 71 "StageMachine$Stage" "ropeCount" "I" ∈ gtb := gt_in (tb_1_9 (i := 3) rfl) (by decide +kernel)
theorem wd_148 : Cond.fieldLink "StageMachine$Stage" 57 "StageMachine$Stage" "ropeCount" "I" ∈ gtb := gt_in (tb_1_9 (i := 4) rfl) (by decide +kernel)
theorem wd_149 : Cond.fieldLink "StageMachine$Turning" 79 "StageMachine$Stage" "ropeCount" "I" ∈ gtb := gt_in (tb_1_9 (i := 5) rfl) (by decide +kernel)
theorem wd_150 : Cond.fieldLink "StageMachine" 198 "StageMachine$Stage" "ropeCount" "I" ∈ gtb := gt_in (tb_1_9 (i := 6) rfl) (by decide +kernel)
theorem wd_151 : Cond.fieldLink "StageMachine$Stage" 43 "StageMachine$Stage" "bound" "I" ∈ gtb := gt_in (tb_1_9 (i := 7) rfl) (by decide +kernel)
theorem wd_152 : Cond.fieldLink "StageMachine$Turning" 120 "StageMachine$Stage" "bound" "I" ∈ gtb := gt_in (tb_1_9 (i := 8) rfl) (by decide +kernel)
theorem wd_153 : Cond.fieldLink "StageMachine$Stage" 163 "StageMachine$Stage" "shaft" "I" ∈ gtb := gt_in (tb_1_9 (i := 9) rfl) (by decide +kernel)
theorem wd_154 : Cond.fieldLink "StageMachine" 204 "StageMachine$Stage" "shaft" "I" ∈ gtb := gt_in (tb_1_9 (i := 10) rfl) (by decide +kernel)
theorem wd_155 : Cond.fieldLink "StageMachine$Stage" 166 "StageMachine$Stage" "wear" "I" ∈ gtb := gt_in (tb_1_9 (i := 11) rfl) (by decide +kernel)
theorem wd_156 : Cond.fieldLink "StageMachine" 216 "StageMachine$Stage" "wear" "I" ∈ gtb := gt_in (tb_1_9 (i := 12) rfl) (by decide +kernel)
theorem wd_157 : Cond.fieldLink "StageMachine$Stage" 210 "StageMachine$Stage" "keptShaft" "I" ∈ gtb := gt_in (tb_1_9 (i := 13) rfl) (by decide +kernel)
theorem wd_158 : Cond.fieldLink "StageMachine$Stage" 213 "StageMachine$Stage" "keptWear" "I" ∈ gtb := gt_in (tb_1_9 (i := 14) rfl) (by decide +kernel)
theorem wd_190 : Cond.classLink "StageMachine" 37 "StageMachine$Turning" ∈ gtb := gt_in (tb_1_11 (i := 14) rfl) (by decide +kernel)
theorem wd_191 : Cond.instantiable "StageMachine$Turning" 3 ∈ gtb := gt_in (tb_1_11 (i := 15) rfl) (by decide +kernel)
theorem wd_192 : Cond.methodLink "StageMachine" 39 ⟨"StageMachine$Turning", "<init>", "(LStageMachine$Stage;)V"⟩ ∈ gtb := gt_in (tb_1_12 (i := 0) rfl) (by decide +kernel)
theorem wd_193 : Cond.instanceMethod ⟨"StageMachine$Turning", "<init>", "(LStageMachine$Stage;)V"⟩ ∈ gtb := gt_in (tb_1_12 (i := 1) rfl) (by decide +kernel)
theorem wd_194 : Cond.code ⟨"StageMachine$Turning", "<init>", "(LStageMachine$Stage;)V"⟩ prog_12_method_1_code 2 none ∈ gtb := gt_in (tb_1_12 (i := 2) rfl) (by decide +kernel)
theorem wd_195 : Cond.methodLink "StageMachine$Turning" 3 ⟨"java/lang/Object", "<init>", "()V"⟩ ∈ gtb := gt_in (tb_1_12 (i := 3) rfl) (by decide +kernel)
theorem wd_196 : Cond.classLink "StageMachine$Turning" 9 "StageMachine$Stop" ∈ gtb := gt_in (tb_1_12 (i := 4) rfl) (by decide +kernel)
theorem wd_197 : Cond.instantiable "StageMachine$Stop" 3 ∈ gtb := gt_in (tb_1_12 (i := 5) rfl) (by decide +kernel)
theorem wd_199 : Cond.instanceMethod ⟨"StageMachine$Stop", "<init>", "()V"⟩ ∈ gtb := gt_in (tb_1_12 (i := 7) rfl) (by decide +kernel)
theorem wd_200 : Cond.code ⟨"StageMachine$Stop", "<init>", "()V"⟩ prog_9_method_1_code 1 none ∈ gtb := gt_in (tb_1_12 (i := 8) rfl) (by decide +kernel)
theorem wd_201 : Cond.methodLink "StageMachine$Stop" 3 ⟨"java/lang/Object", "<init>", "()V"⟩ ∈ gtb := gt_in (tb_1_12 (i := 9) rfl) (by decide +kernel)
theorem wd_202 : Cond.fieldLink "StageMachine$Stop" 18 "StageMachine$Stop" "kind" "I" ∈ gtb := gt_in (tb_1_12 (i := 10) rfl) (by decide +kernel)
theorem wd_203 : Cond.fieldLink "StageMachine$Turning" 29 "StageMachine$Stop" "kind" "I" ∈ gtb := gt_in (tb_1_12 (i := 11) rfl) (by decide +kernel)
theorem wd_204 : Cond.fieldLink "StageMachine$Stop" 9 "StageMachine$Stop" "thing" "I" ∈ gtb := gt_in (tb_1_12 (i := 12) rfl) (by decide +kernel)
theorem wd_205 : Cond.fieldLink "StageMachine$Turning" 33 "StageMachine$Stop" "thing" "I" ∈ gtb := gt_in (tb_1_12 (i := 13) rfl) (by decide +kernel)
theorem wd_206 : Cond.fieldLink "StageMachine$Stop" 15 "StageMachine$Stop" "other" "I" ∈ gtb := gt_in (tb_1_12 (i := 14) rfl) (by decide +kernel)
theorem wd_207 : Cond.fieldLink "StageMachine$Turning" 36 "StageMachine$Stop" "other" "I" ∈ gtb := gt_in (tb_1_12 (i := 15) rfl) (by decide +kernel)
theorem wd_215 : Cond.fieldLink "StageMachine$Turning" 21 "StageMachine$Turning" "stage" "LStageMachine$Stage;" ∈ gtb := gt_in (tb_1_13 (i := 7) rfl) (by decide +kernel)
theorem wd_216 : Cond.fieldLink "StageMachine$Turning" 12 "StageMachine$Turning" "latest" "LStageMachine$Stop;" ∈ gtb := gt_in (tb_1_13 (i := 8) rfl) (by decide +kernel)
theorem wd_217 : Cond.fieldLink "StageMachine" 113 "StageMachine$Turning" "latest" "LStageMachine$Stop;" ∈ gtb := gt_in (tb_1_13 (i := 9) rfl) (by decide +kernel)
theorem wd_218 : Cond.fieldLink "StageMachine$Turning" 18 "StageMachine$Turning" "ahead" "LStageMachine$Stop;" ∈ gtb := gt_in (tb_1_13 (i := 10) rfl) (by decide +kernel)
theorem wd_226 : Cond.classLink "StageMachine" 46 "StageMachine$Change" ∈ gtb := gt_in (tb_1_14 (i := 2) rfl) (by decide +kernel)
theorem wd_227 : Cond.instantiable "StageMachine$Change" 9 ∈ gtb := gt_in (tb_1_14 (i := 3) rfl) (by decide +kernel)
theorem wd_228 : Cond.methodLink "StageMachine" 48 ⟨"StageMachine$Change", "<init>", "(LStageMachine$Stage;)V"⟩ ∈ gtb := gt_in (tb_1_14 (i := 4) rfl) (by decide +kernel)
theorem wd_229 : Cond.instanceMethod ⟨"StageMachine$Change", "<init>", "(LStageMachine$Stage;)V"⟩ ∈ gtb := gt_in (tb_1_14 (i := 5) rfl) (by decide +kernel)
theorem wd_230 : Cond.code ⟨"StageMachine$Change", "<init>", "(LStageMachine$Stage;)V"⟩ prog_3_method_1_code 2 none ∈ gtb := gt_in (tb_1_14 (i := 6) rfl) (by decide +kernel)
theorem wd_231 : Cond.methodLink "StageMachine$Change" 3 ⟨"java/lang/Object", "<init>", "()V"⟩ ∈ gtb := gt_in (tb_1_14 (i := 7) rfl) (by decide +kernel)
theorem wd_232 : Cond.fieldLink "StageMachine$Change" 21 "StageMachine$Change" "stage" "LStageMachine$Stage;" ∈ gtb := gt_in (tb_1_14 (i := 8) rfl) (by decide +kernel)
theorem wd_233 : Cond.fieldLink "StageMachine$Change" 9 "StageMachine$Change" "ropes" "[I" ∈ gtb := gt_in (tb_1_14 (i := 9) rfl) (by decide +kernel)
theorem wd_234 : Cond.fieldLink "StageMachine$Change" 15 "StageMachine$Change" "drums" "[I" ∈ gtb := gt_in (tb_1_14 (i := 10) rfl) (by decide +kernel)
theorem wd_235 : Cond.fieldLink "StageMachine$Change" 18 "StageMachine$Change" "shares" "[I" ∈ gtb := gt_in (tb_1_14 (i := 11) rfl) (by decide +kernel)
theorem wd_236 : Cond.fieldLink "StageMachine$Change" 33 "StageMachine$Change" "asked" "Z" ∈ gtb := gt_in (tb_1_14 (i := 12) rfl) (by decide +kernel)
theorem wd_237 : Cond.fieldLink "StageMachine$Change" 37 "StageMachine$Change" "found" "Z" ∈ gtb := gt_in (tb_1_14 (i := 13) rfl) (by decide +kernel)
theorem wd_238 : Cond.fieldLink "StageMachine$Change" 112 "StageMachine$Change" "twos" "I" ∈ gtb := gt_in (tb_1_14 (i := 14) rfl) (by decide +kernel)
theorem wd_239 : Cond.fieldLink "StageMachine$Change" 115 "StageMachine$Change" "threes" "I" ∈ gtb := gt_in (tb_1_14 (i := 15) rfl) (by decide +kernel)
theorem wd_240 : Cond.fieldLink "StageMachine$Change" 118 "StageMachine$Change" "fives" "I" ∈ gtb := gt_in (tb_2_0 (i := 0) rfl) (by decide +kernel)
theorem wd_260 : Cond.fieldLink "StageMachine" 33 "StageMachine" "stage" "LStageMachine$Stage;" ∈ gtb := gt_in (tb_2_1 (i := 4) rfl) (by decide +kernel)
theorem wd_261 : Cond.fieldLink "StageMachine" 42 "StageMachine" "turning" "LStageMachine$Turning;" ∈ gtb := gt_in (tb_2_1 (i := 5) rfl) (by decide +kernel)
theorem wd_262 : Cond.fieldLink "StageMachine" 49 "StageMachine" "latestChange" "LStageMachine$Change;" ∈ gtb := gt_in (tb_2_1 (i := 6) rfl) (by decide +kernel)
theorem wd_263 : Cond.fieldLink "StageMachine" 10 "StageMachine" "tape" "LStageMachine$Tape;" ∈ gtb := gt_in (tb_2_1 (i := 7) rfl) (by decide +kernel)
theorem wd_264 : Cond.fieldLink "StageMachine" 19 "StageMachine" "candles" "LStageMachine$Candles;" ∈ gtb := gt_in (tb_2_1 (i := 8) rfl) (by decide +kernel)
theorem wd_265 : Cond.fieldLink "StageMachine" 26 "StageMachine" "stock" "LStageMachine$Stock;" ∈ gtb := gt_in (tb_2_1 (i := 9) rfl) (by decide +kernel)
theorem wd_266 : Cond.fieldLink "StageMachine" 157 "StageMachine" "cueCanGoBack" "Z" ∈ gtb := gt_in (tb_2_1 (i := 10) rfl) (by decide +kernel)
theorem wd_282 : Cond.methodLink "StageMachineLaw" 13 ⟨"StageMachine", "thing", "(IIII)I"⟩ ∈ gtb := gt_in (tb_2_2 (i := 10) rfl) (by decide +kernel)
theorem wd_283 : Cond.instanceMethod ⟨"StageMachine", "thing", "(IIII)I"⟩ ∈ gtb := gt_in (tb_2_2 (i := 11) rfl) (by decide +kernel)
theorem wd_284 : Cond.selects "StageMachine" ⟨"StageMachine", "thing", "(IIII)I"⟩ ⟨"StageMachine", "thing", "(IIII)I"⟩ ∈ gtb := gt_in (tb_2_2 (i := 12) rfl) (by decide +kernel)
theorem wd_285 : Cond.code ⟨"StageMachine", "thing", "(IIII)I"⟩ prog_1_method_2_code 6 (some .int) ∈ gtb := gt_in (tb_2_2 (i := 13) rfl) (by decide +kernel)
theorem wd_286 : Cond.methodLink "StageMachine" 53 ⟨"StageMachine$Stage", "addThing", "(IIII)I"⟩ ∈ gtb := gt_in (tb_2_2 (i := 14) rfl) (by decide +kernel)
theorem wd_287 : Cond.instanceMethod ⟨"StageMachine$Stage", "addThing", "(IIII)I"⟩ ∈ gtb := gt_in (tb_2_2 (i := 15) rfl) (by decide +kernel)
theorem wd_288 : Cond.selects "StageMachine$Stage" ⟨"StageMachine$Stage", "addThing", "(IIII)I"⟩ ⟨"StageMachine$Stage", "addThing", "(IIII)I"⟩ ∈ gtb := gt_in (tb_2_3 (i := 0) rfl) (by decide +kernel)
theorem wd_289 : Cond.code ⟨"StageMachine$Stage", "addThing", "(IIII)I"⟩ prog_7_method_5_code 11 (some .int) ∈ gtb := gt_in (tb_2_3 (i := 1) rfl) (by decide +kernel)
theorem wd_291 : Cond.static ⟨"StageMachine", "isWithin", "(III)Z"⟩ ∈ gtb := gt_in (tb_2_3 (i := 3) rfl) (by decide +kernel)
theorem wd_292 : Cond.code ⟨"StageMachine", "isWithin", "(III)Z"⟩ prog_1_method_38_code 3 (some .boolean) ∈ gtb := gt_in (tb_2_3 (i := 4) rfl) (by decide +kernel)
theorem wd_293 : Cond.methodLink "StageMachine$Stage" 60 ⟨"StageMachine$Stage", "isStagePlace", "(I)Z"⟩ ∈ gtb := gt_in (tb_2_3 (i := 5) rfl) (by decide +kernel)
theorem wd_294 : Cond.static ⟨"StageMachine$Stage", "isStagePlace", "(I)Z"⟩ ∈ gtb := gt_in (tb_2_3 (i := 6) rfl) (by decide +kernel)
theorem wd_295 : Cond.code ⟨"StageMachine$Stage", "isStagePlace", "(I)Z"⟩ prog_7_method_24_code 1 (some .boolean) ∈ gtb := gt_in (tb_2_3 (i := 7) rfl) (by decide +kernel)
theorem wd_296 : Cond.methodLink "StageMachine$Stage" 64 ⟨"StageMachine$Stage", "isClear", "(LStageMachine$Thing;III)Z"⟩ ∈ gtb := gt_in (tb_2_3 (i := 8) rfl) (by decide +kernel)
theorem wd_297 : Cond.instanceMethod ⟨"StageMachine$Stage", "isClear", "(LStageMachine$Thing;III)Z"⟩ ∈ gtb := gt_in (tb_2_3 (i := 9) rfl) (by decide +kernel)
theorem wd_298 : Cond.selects "StageMachine$Stage" ⟨"StageMachine$Stage", "isClear", "(LStageMachine$Thing;III)Z"⟩ ⟨"StageMachine$Stage", "isClear", "(LStageMachine$Thing;III)Z"⟩ ∈ gtb := gt_in (tb_2_3 (i := 10) rfl) (by decide +kernel)
theorem wd_299 : Cond.code ⟨"StageMachine$Stage", "isClear", "(LStageMachine$Thing;III)Z"⟩ prog_7_method_9_code 8 (some .boolean) ∈ gtb := gt_in (tb_2_3 (i := 11) rfl) (by decide +kernel)
theorem wd_301 : Cond.static ⟨"StageMachine", "overlap", "(IIII)Z"⟩ ∈ gtb := gt_in (tb_2_3 (i := 13) rfl) (by decide +kernel)
theorem wd_302 : Cond.code ⟨"StageMachine", "overlap", "(IIII)Z"⟩ prog_1_method_41_code 4 (some .boolean) ∈ gtb := gt_in (tb_2_3 (i := 14) rfl) (by decide +kernel)
theorem wd_303 : Cond.instantiable "StageMachine$Thing" 12 ∈ gtb := gt_in (tb_2_3 (i := 15) rfl) (by decide +kernel)
theorem wd_304 : Cond.methodLink "StageMachine$Stage" 68 ⟨"StageMachine$Thing", "<init>", "(IIIIIII)V"⟩ ∈ gtb := gt_in (tb_2_4 (i := 0) rfl) (by decide +kernel)
theorem wd_305 : Cond.instanceMethod ⟨"StageMachine$Thing", "<init>", "(IIIIIII)V"⟩ ∈ gtb := gt_in (tb_2_4 (i := 1) rfl) (by decide +kernel)
theorem wd_306 : Cond.code ⟨"StageMachine$Thing", "<init>", "(IIIIIII)V"⟩ prog_11_method_1_code 8 none ∈ gtb := gt_in (tb_2_4 (i := 2) rfl) (by decide +kernel)
theorem wd_307 : Cond.methodLink "StageMachine$Thing" 3 ⟨"java/lang/Object", "<init>", "()V"⟩ ∈ gtb := gt_in (tb_2_4 (i := 3) rfl) (by decide +kernel)
theorem wd_308 : Cond.methodLink "StageMachine$Thing" 37 ⟨"java/util/Arrays", "fill", "([II)V"⟩ ∈ gtb := gt_in (tb_2_4 (i := 4) rfl) (by decide +kernel)
theorem wd_309 : Cond.static ⟨"java/util/Arrays", "fill", "([II)V"⟩ ∈ gtb := gt_in (tb_2_4 (i := 5) rfl) (by decide +kernel)
theorem wd_310 : Cond.code ⟨"java/util/Arrays", "fill", "([II)V"⟩ prog_18_method_103_code 4 none ∈ gtb := gt_in (tb_2_4 (i := 6) rfl) (by decide +kernel)
theorem wd_311 : Cond.fieldLink "StageMachine$Thing" 15 "StageMachine$Thing" "number" "I" ∈ gtb := gt_in (tb_2_4 (i := 7) rfl) (by decide +kernel)
theorem wd_312 : Cond.fieldLink "StageMachine$Rope" 28 "StageMachine$Thing" "number" "I" ∈ gtb := gt_in (tb_2_4 (i := 8) rfl) (by decide +kernel)
theorem wd_313 : Cond.fieldLink "StageMachine$Change" 94 "StageMachine$Thing" "number" "I" ∈ gtb := gt_in (tb_2_4 (i := 9) rfl) (by decide +kernel)
theorem wd_314 : Cond.fieldLink "StageMachine$Thing" 19 "StageMachine$Thing" "lane" "I" ∈ gtb := gt_in (tb_2_4 (i := 10) rfl) (by decide +kernel)
theorem wd_315 : Cond.fieldLink "StageMachine$Stage" 81 "StageMachine$Thing" "lane" "I" ∈ gtb := gt_in (tb_2_4 (i := 11) rfl) (by decide +kernel)
theorem wd_316 : Cond.fieldLink "StageMachine$Thing" 25 "StageMachine$Thing" "width" "I" ∈ gtb := gt_in (tb_2_4 (i := 12) rfl) (by decide +kernel)
theorem wd_317 : Cond.fieldLink "StageMachine$Stage" 90 "StageMachine$Thing" "width" "I" ∈ gtb := gt_in (tb_2_4 (i := 13) rfl) (by decide +kernel)
theorem wd_318 : Cond.fieldLink "StageMachine$Thing" 34 "StageMachine$Thing" "weight" "I" ∈ gtb := gt_in (tb_2_4 (i := 14) rfl) (by decide +kernel)
theorem wd_319 : Cond.fieldLink "StageMachine$Rope" 50 "StageMachine$Thing" "weight" "I" ∈ gtb := gt_in (tb_2_4 (i := 15) rfl) (by decide +kernel)
theorem wd_320 : Cond.fieldLink "StageMachine$Thing" 28 "StageMachine$Thing" "least" "I" ∈ gtb := gt_in (tb_2_5 (i := 0) rfl) (by decide +kernel)
theorem wd_321 : Cond.fieldLink "StageMachine$Turning" 106 "StageMachine$Thing" "least" "I" ∈ gtb := gt_in (tb_2_5 (i := 1) rfl) (by decide +kernel)
theorem wd_322 : Cond.fieldLink "StageMachine$Thing" 31 "StageMachine$Thing" "most" "I" ∈ gtb := gt_in (tb_2_5 (i := 2) rfl) (by decide +kernel)
theorem wd_323 : Cond.fieldLink "StageMachine$Turning" 109 "StageMachine$Thing" "most" "I" ∈ gtb := gt_in (tb_2_5 (i := 3) rfl) (by decide +kernel)
theorem wd_324 : Cond.fieldLink "StageMachine$Thing" 9 "StageMachine$Thing" "sceneAt" "[I" ∈ gtb := gt_in (tb_2_5 (i := 4) rfl) (by decide +kernel)
theorem wd_325 : Cond.fieldLink "StageMachine$Change" 56 "StageMachine$Thing" "sceneAt" "[I" ∈ gtb := gt_in (tb_2_5 (i := 5) rfl) (by decide +kernel)
theorem wd_326 : Cond.fieldLink "StageMachine$Thing" 22 "StageMachine$Thing" "at" "I" ∈ gtb := gt_in (tb_2_5 (i := 6) rfl) (by decide +kernel)
theorem wd_327 : Cond.fieldLink "StageMachine$Change" 61 "StageMachine$Thing" "at" "I" ∈ gtb := gt_in (tb_2_5 (i := 7) rfl) (by decide +kernel)
theorem wd_328 : Cond.fieldLink "StageMachine$Rope" 73 "StageMachine$Thing" "at" "I" ∈ gtb := gt_in (tb_2_5 (i := 8) rfl) (by decide +kernel)
theorem wd_329 : Cond.fieldLink "StageMachine$Stage" 87 "StageMachine$Thing" "at" "I" ∈ gtb := gt_in (tb_2_5 (i := 9) rfl) (by decide +kernel)
theorem wd_330 : Cond.fieldLink "StageMachine$Thing" 57 "StageMachine$Thing" "trialAt" "I" ∈ gtb := gt_in (tb_2_5 (i := 10) rfl) (by decide +kernel)
theorem wd_331 : Cond.fieldLink "StageMachine$Turning" 101 "StageMachine$Thing" "trialAt" "I" ∈ gtb := gt_in (tb_2_5 (i := 11) rfl) (by decide +kernel)
theorem wd_332 : Cond.fieldLink "StageMachine$Stage" 154 "StageMachine$Thing" "trialAt" "I" ∈ gtb := gt_in (tb_2_5 (i := 12) rfl) (by decide +kernel)
theorem wd_333 : Cond.fieldLink "StageMachine$Thing" 43 "StageMachine$Thing" "tied" "LStageMachine$Rope;" ∈ gtb := gt_in (tb_2_5 (i := 13) rfl) (by decide +kernel)
theorem wd_334 : Cond.fieldLink "StageMachine$Change" 121 "StageMachine$Thing" "tied" "LStageMachine$Rope;" ∈ gtb := gt_in (tb_2_5 (i := 14) rfl) (by decide +kernel)
theorem wd_335 : Cond.fieldLink "StageMachine$Rope" 76 "StageMachine$Thing" "tied" "LStageMachine$Rope;" ∈ gtb := gt_in (tb_2_5 (i := 15) rfl) (by decide +kernel)
theorem wd_336 : Cond.fieldLink "StageMachine$Stage" 113 "StageMachine$Thing" "tied" "LStageMachine$Rope;" ∈ gtb := gt_in (tb_2_6 (i := 0) rfl) (by decide +kernel)
theorem wd_337 : Cond.fieldLink "StageMachine$Stage" 189 "StageMachine$Thing" "keptAt" "I" ∈ gtb := gt_in (tb_2_6 (i := 1) rfl) (by decide +kernel)
theorem wd_338 : Cond.fieldLink "StageMachine$Stage" 192 "StageMachine$Thing" "keptTied" "LStageMachine$Rope;" ∈ gtb := gt_in (tb_2_6 (i := 2) rfl) (by decide +kernel)
theorem wd_364 : Cond.methodLink "StageMachine" 57 ⟨"StageMachine", "deed", "(IZ)I"⟩ ∈ gtb := gt_in (tb_2_7 (i := 12) rfl) (by decide +kernel)
theorem wd_366 : Cond.instanceMethod ⟨"StageMachine", "deed", "(IZ)I"⟩ ∈ gtb := gt_in (tb_2_7 (i := 14) rfl) (by decide +kernel)
theorem wd_367 : Cond.code ⟨"StageMachine", "deed", "(IZ)I"⟩ prog_1_method_35_code 3 (some .int) ∈ gtb := gt_in (tb_2_7 (i := 15) rfl) (by decide +kernel)
theorem wd_368 : Cond.methodLink "StageMachineLaw" 18 ⟨"StageMachine", "ofThing", "(II)I"⟩ ∈ gtb := gt_in (tb_2_8 (i := 0) rfl) (by decide +kernel)
theorem wd_369 : Cond.instanceMethod ⟨"StageMachine", "ofThing", "(II)I"⟩ ∈ gtb := gt_in (tb_2_8 (i := 1) rfl) (by decide +kernel)
theorem wd_370 : Cond.selects "StageMachine" ⟨"StageMachine", "ofThing", "(II)I"⟩ ⟨"StageMachine", "ofThing", "(II)I"⟩ ∈ gtb := gt_in (tb_2_8 (i := 2) rfl) (by decide +kernel)
theorem wd_371 : Cond.code ⟨"StageMachine", "ofThing", "(II)I"⟩ prog_1_method_3_code 4 (some .int) ∈ gtb := gt_in (tb_2_8 (i := 3) rfl) (by decide +kernel)
theorem wd_372 : Cond.methodLink "StageMachine" 61 ⟨"StageMachine$Stage", "thingNumbered", "(I)LStageMachine$Thing;"⟩ ∈ gtb := gt_in (tb_2_8 (i := 4) rfl) (by decide +kernel)
theorem wd_373 : Cond.instanceMethod ⟨"StageMachine$Stage", "thingNumbered", "(I)LStageMachine$Thing;"⟩ ∈ gtb := gt_in (tb_2_8 (i := 5) rfl) (by decide +kernel)
theorem wd_374 : Cond.selects "StageMachine$Stage" ⟨"StageMachine$Stage", "thingNumbered", "(I)LStageMachine$Thing;"⟩ ⟨"StageMachine$Stage", "thingNumbered", "(I)LStageMachine$Thing;"⟩ ∈ gtb := gt_in (tb_2_8 (i := 6) rfl) (by decide +kernel)
theorem wd_375 : Cond.code ⟨"StageMachine$Stage", "thingNumbered", "(I)LStageMachine$Thing;"⟩ prog_7_method_2_code 2 (Option.some (FieldType.object "StageMachine$Thing")) ∈ gtb := gt_in (tb_2_8 (i := 7) rfl) (by decide +kernel)
theorem wd_376 : Cond.methodLink "StageMachine" 65 ⟨"StageMachine$Thing", "tell", "(I)I"⟩ ∈ gtb := gt_in (tb_2_8 (i := 8) rfl) (by decide +kernel)
theorem wd_377 : Cond.instanceMethod ⟨"StageMachine$Thing", "tell", "(I)I"⟩ ∈ gtb := gt_in (tb_2_8 (i := 9) rfl) (by decide +kernel)
theorem wd_378 : Cond.selects "StageMachine$Thing" ⟨"StageMachine$Thing", "tell", "(I)I"⟩ ⟨"StageMachine$Thing", "tell", "(I)I"⟩ ∈ gtb := gt_in (tb_2_8 (i := 10) rfl) (by decide +kernel)
theorem wd_379 : Cond.code ⟨"StageMachine$Thing", "tell", "(I)I"⟩ prog_11_method_2_code 2 (some .int) ∈ gtb := gt_in (tb_2_8 (i := 11) rfl) (by decide +kernel)
theorem wd_380 : Cond.methodLink "StageMachineLaw" 23 ⟨"StageMachine", "on", "(I)I"⟩ ∈ gtb := gt_in (tb_2_8 (i := 12) rfl) (by decide +kernel)
theorem wd_381 : Cond.instanceMethod ⟨"StageMachine", "on", "(I)I"⟩ ∈ gtb := gt_in (tb_2_8 (i := 13) rfl) (by decide +kernel)
theorem wd_382 : Cond.selects "StageMachine" ⟨"StageMachine", "on", "(I)I"⟩ ⟨"StageMachine", "on", "(I)I"⟩ ∈ gtb := gt_in (tb_2_8 (i := 14) rfl) (by decide +kernel)
theorem wd_383 : Cond.code ⟨"StageMachine", "on", "(I)I"⟩ prog_1_method_4_code 2 (some .int) ∈ gtb := gt_in (tb_2_8 (i := 15) rfl) (by decide +kernel)
theorem wd_384 : Cond.methodLink "StageMachine" 71 ⟨"StageMachine$Stage", "standingOn", "(I)I"⟩ ∈ gtb := gt_in (tb_2_9 (i := 0) rfl) (by decide +kernel)
theorem wd_385 : Cond.instanceMethod ⟨"StageMachine$Stage", "standingOn", "(I)I"⟩ ∈ gtb := gt_in (tb_2_9 (i := 1) rfl) (by decide +kernel)
theorem wd_386 : Cond.selects "StageMachine$Stage" ⟨"StageMachine$Stage", "standingOn", "(I)I"⟩ ⟨"StageMachine$Stage", "standingOn", "(I)I"⟩ ∈ gtb := gt_in (tb_2_9 (i := 2) rfl) (by decide +kernel)
theorem wd_387 : Cond.code ⟨"StageMachine$Stage", "standingOn", "(I)I"⟩ prog_7_method_8_code 4 (some .int) ∈ gtb := gt_in (tb_2_9 (i := 3) rfl) (by decide +kernel)
theorem wd_388 : Cond.methodLink "StageMachine$Stage" 84 ⟨"StageMachine$Thing", "covers", "(I)Z"⟩ ∈ gtb := gt_in (tb_2_9 (i := 4) rfl) (by decide +kernel)
theorem wd_389 : Cond.instanceMethod ⟨"StageMachine$Thing", "covers", "(I)Z"⟩ ∈ gtb := gt_in (tb_2_9 (i := 5) rfl) (by decide +kernel)
theorem wd_390 : Cond.selects "StageMachine$Thing" ⟨"StageMachine$Thing", "covers", "(I)Z"⟩ ⟨"StageMachine$Thing", "covers", "(I)Z"⟩ ∈ gtb := gt_in (tb_2_9 (i := 6) rfl) (by decide +kernel)
theorem wd_391 : Cond.code ⟨"StageMachine$Thing", "covers", "(I)Z"⟩ prog_11_method_4_code 2 (some .boolean) ∈ gtb := gt_in (tb_2_9 (i := 7) rfl) (by decide +kernel)
theorem wd_392 : Cond.methodLink "StageMachineLaw" 28 ⟨"StageMachine", "drum", "(I)I"⟩ ∈ gtb := gt_in (tb_2_9 (i := 8) rfl) (by decide +kernel)
theorem wd_393 : Cond.instanceMethod ⟨"StageMachine", "drum", "(I)I"⟩ ∈ gtb := gt_in (tb_2_9 (i := 9) rfl) (by decide +kernel)
theorem wd_394 : Cond.selects "StageMachine" ⟨"StageMachine", "drum", "(I)I"⟩ ⟨"StageMachine", "drum", "(I)I"⟩ ∈ gtb := gt_in (tb_2_9 (i := 10) rfl) (by decide +kernel)
theorem wd_395 : Cond.code ⟨"StageMachine", "drum", "(I)I"⟩ prog_1_method_5_code 3 (some .int) ∈ gtb := gt_in (tb_2_9 (i := 11) rfl) (by decide +kernel)
theorem wd_396 : Cond.methodLink "StageMachine" 74 ⟨"StageMachine$Stage", "addDrum", "(I)I"⟩ ∈ gtb := gt_in (tb_2_9 (i := 12) rfl) (by decide +kernel)
theorem wd_397 : Cond.instanceMethod ⟨"StageMachine$Stage", "addDrum", "(I)I"⟩ ∈ gtb := gt_in (tb_2_9 (i := 13) rfl) (by decide +kernel)
theorem wd_398 : Cond.selects "StageMachine$Stage" ⟨"StageMachine$Stage", "addDrum", "(I)I"⟩ ⟨"StageMachine$Stage", "addDrum", "(I)I"⟩ ∈ gtb := gt_in (tb_2_9 (i := 14) rfl) (by decide +kernel)
theorem wd_399 : Cond.code ⟨"StageMachine$Stage", "addDrum", "(I)I"⟩ prog_7_method_6_code 2 (some .int) ∈ gtb := gt_in (tb_2_9 (i := 15) rfl) (by decide +kernel)
theorem wd_400 : Cond.instantiable "StageMachine$Drum" 2 ∈ gtb := gt_in (tb_2_10 (i := 0) rfl) (by decide +kernel)
theorem wd_401 : Cond.methodLink "StageMachine$Stage" 71 ⟨"StageMachine$Drum", "<init>", "(II)V"⟩ ∈ gtb := gt_in (tb_2_10 (i := 1) rfl) (by decide +kernel)
theorem wd_402 : Cond.instanceMethod ⟨"StageMachine$Drum", "<init>", "(II)V"⟩ ∈ gtb := gt_in (tb_2_10 (i := 2) rfl) (by decide +kernel)
theorem wd_403 : Cond.code ⟨"StageMachine$Drum", "<init>", "(II)V"⟩ prog_4_method_1_code 3 none ∈ gtb := gt_in (tb_2_10 (i := 3) rfl) (by decide +kernel)
theorem wd_404 : Cond.methodLink "StageMachine$Drum" 1 ⟨"java/lang/Object", "<init>", "()V"⟩ ∈ gtb := gt_in (tb_2_10 (i := 4) rfl) (by decide +kernel)
theorem wd_405 : Cond.fieldLink "StageMachine$Drum" 7 "StageMachine$Drum" "number" "I" ∈ gtb := gt_in (tb_2_10 (i := 5) rfl) (by decide +kernel)
theorem wd_406 : Cond.fieldLink "StageMachine$Rope" 39 "StageMachine$Drum" "number" "I" ∈ gtb := gt_in (tb_2_10 (i := 6) rfl) (by decide +kernel)
theorem wd_407 : Cond.fieldLink "StageMachine$Change" 137 "StageMachine$Drum" "number" "I" ∈ gtb := gt_in (tb_2_10 (i := 7) rfl) (by decide +kernel)
theorem wd_408 : Cond.fieldLink "StageMachine$Drum" 13 "StageMachine$Drum" "size" "I" ∈ gtb := gt_in (tb_2_10 (i := 8) rfl) (by decide +kernel)
theorem wd_409 : Cond.fieldLink "StageMachine$Change" 103 "StageMachine$Drum" "size" "I" ∈ gtb := gt_in (tb_2_10 (i := 9) rfl) (by decide +kernel)
theorem wd_410 : Cond.fieldLink "StageMachine$Rope" 60 "StageMachine$Drum" "size" "I" ∈ gtb := gt_in (tb_2_10 (i := 10) rfl) (by decide +kernel)
theorem wd_416 : Cond.methodLink "StageMachineLaw" 32 ⟨"StageMachine", "rope", "(III)I"⟩ ∈ gtb := gt_in (tb_2_11 (i := 0) rfl) (by decide +kernel)
theorem wd_417 : Cond.instanceMethod ⟨"StageMachine", "rope", "(III)I"⟩ ∈ gtb := gt_in (tb_2_11 (i := 1) rfl) (by decide +kernel)
theorem wd_418 : Cond.selects "StageMachine" ⟨"StageMachine", "rope", "(III)I"⟩ ⟨"StageMachine", "rope", "(III)I"⟩ ∈ gtb := gt_in (tb_2_11 (i := 2) rfl) (by decide +kernel)
theorem wd_419 : Cond.code ⟨"StageMachine", "rope", "(III)I"⟩ prog_1_method_6_code 5 (some .int) ∈ gtb := gt_in (tb_2_11 (i := 3) rfl) (by decide +kernel)
theorem wd_420 : Cond.methodLink "StageMachine" 77 ⟨"StageMachine$Stage", "addRope", "(III)I"⟩ ∈ gtb := gt_in (tb_2_11 (i := 4) rfl) (by decide +kernel)
theorem wd_421 : Cond.instanceMethod ⟨"StageMachine$Stage", "addRope", "(III)I"⟩ ∈ gtb := gt_in (tb_2_11 (i := 5) rfl) (by decide +kernel)
theorem wd_422 : Cond.selects "StageMachine$Stage" ⟨"StageMachine$Stage", "addRope", "(III)I"⟩ ⟨"StageMachine$Stage", "addRope", "(III)I"⟩ ∈ gtb := gt_in (tb_2_11 (i := 6) rfl) (by decide +kernel)
theorem wd_423 : Cond.code ⟨"StageMachine$Stage", "addRope", "(III)I"⟩ prog_7_method_7_code 8 (some .int) ∈ gtb := gt_in (tb_2_11 (i := 7) rfl) (by decide +kernel)
theorem wd_424 : Cond.methodLink "StageMachine$Stage" 74 ⟨"StageMachine$Stage", "thingNumbered", "(I)LStageMachine$Thing;"⟩ ∈ gtb := gt_in (tb_2_11 (i := 8) rfl) (by decide +kernel)
theorem wd_425 : Cond.instantiable "StageMachine$Rope" 12 ∈ gtb := gt_in (tb_2_11 (i := 9) rfl) (by decide +kernel)
theorem wd_426 : Cond.methodLink "StageMachine$Stage" 78 ⟨"StageMachine$Rope", "<init>", "(ILStageMachine$Thing;III)V"⟩ ∈ gtb := gt_in (tb_2_11 (i := 10) rfl) (by decide +kernel)
theorem wd_427 : Cond.instanceMethod ⟨"StageMachine$Rope", "<init>", "(ILStageMachine$Thing;III)V"⟩ ∈ gtb := gt_in (tb_2_11 (i := 11) rfl) (by decide +kernel)
theorem wd_428 : Cond.code ⟨"StageMachine$Rope", "<init>", "(ILStageMachine$Thing;III)V"⟩ prog_6_method_1_code 6 none ∈ gtb := gt_in (tb_2_11 (i := 12) rfl) (by decide +kernel)
theorem wd_429 : Cond.methodLink "StageMachine$Rope" 3 ⟨"java/lang/Object", "<init>", "()V"⟩ ∈ gtb := gt_in (tb_2_11 (i := 13) rfl) (by decide +kernel)
theorem wd_430 : Cond.fieldLink "StageMachine$Rope" 9 "StageMachine$Rope" "number" "I" ∈ gtb := gt_in (tb_2_11 (i := 14) rfl) (by decide +kernel)
theorem wd_431 : Cond.fieldLink "StageMachine$Thing" 47 "StageMachine$Rope" "number" "I" ∈ gtb := gt_in (tb_2_11 (i := 15) rfl) (by decide +kernel)
theorem wd_432 : Cond.fieldLink "StageMachine$Change" 129 "StageMachine$Rope" "number" "I" ∈ gtb := gt_in (tb_2_12 (i := 0) rfl) (by decide +kernel)
theorem wd_433 : Cond.fieldLink "StageMachine$Rope" 15 "StageMachine$Rope" "thing" "LStageMachine$Thing;" ∈ gtb := gt_in (tb_2_12 (i := 1) rfl) (by decide +kernel)
theorem wd_434 : Cond.fieldLink "StageMachine$Change" 77 "StageMachine$Rope" "thing" "LStageMachine$Thing;" ∈ gtb := gt_in (tb_2_12 (i := 2) rfl) (by decide +kernel)
theorem wd_435 : Cond.fieldLink "StageMachine$Stage" 109 "StageMachine$Rope" "thing" "LStageMachine$Thing;" ∈ gtb := gt_in (tb_2_12 (i := 3) rfl) (by decide +kernel)
theorem wd_436 : Cond.fieldLink "StageMachine$Rope" 19 "StageMachine$Rope" "way" "I" ∈ gtb := gt_in (tb_2_12 (i := 4) rfl) (by decide +kernel)
theorem wd_437 : Cond.fieldLink "StageMachine$Stage" 174 "StageMachine$Rope" "way" "I" ∈ gtb := gt_in (tb_2_12 (i := 5) rfl) (by decide +kernel)
theorem wd_438 : Cond.fieldLink "StageMachine$Rope" 22 "StageMachine$Rope" "gear" "I" ∈ gtb := gt_in (tb_2_12 (i := 6) rfl) (by decide +kernel)
theorem wd_439 : Cond.fieldLink "StageMachine$Rope" 25 "StageMachine$Rope" "holds" "I" ∈ gtb := gt_in (tb_2_12 (i := 7) rfl) (by decide +kernel)
theorem wd_440 : Cond.fieldLink "StageMachine$Rope" 35 "StageMachine$Rope" "drum" "LStageMachine$Drum;" ∈ gtb := gt_in (tb_2_12 (i := 8) rfl) (by decide +kernel)
theorem wd_441 : Cond.fieldLink "StageMachine$Change" 133 "StageMachine$Rope" "drum" "LStageMachine$Drum;" ∈ gtb := gt_in (tb_2_12 (i := 9) rfl) (by decide +kernel)
theorem wd_442 : Cond.fieldLink "StageMachine$Stage" 125 "StageMachine$Rope" "drum" "LStageMachine$Drum;" ∈ gtb := gt_in (tb_2_12 (i := 10) rfl) (by decide +kernel)
theorem wd_443 : Cond.fieldLink "StageMachine$Thing" 50 "StageMachine$Rope" "start" "I" ∈ gtb := gt_in (tb_2_12 (i := 11) rfl) (by decide +kernel)
theorem wd_444 : Cond.fieldLink "StageMachine$Rope" 63 "StageMachine$Rope" "start" "I" ∈ gtb := gt_in (tb_2_12 (i := 12) rfl) (by decide +kernel)
theorem wd_445 : Cond.fieldLink "StageMachine$Stage" 143 "StageMachine$Rope" "start" "I" ∈ gtb := gt_in (tb_2_12 (i := 13) rfl) (by decide +kernel)
theorem wd_446 : Cond.fieldLink "StageMachine$Rope" 42 "StageMachine$Rope" "done" "I" ∈ gtb := gt_in (tb_2_12 (i := 14) rfl) (by decide +kernel)
theorem wd_447 : Cond.fieldLink "StageMachine$Change" 130 "StageMachine$Rope" "done" "I" ∈ gtb := gt_in (tb_2_12 (i := 15) rfl) (by decide +kernel)
theorem wd_448 : Cond.fieldLink "StageMachine$Stage" 130 "StageMachine$Rope" "done" "I" ∈ gtb := gt_in (tb_2_13 (i := 0) rfl) (by decide +kernel)
theorem wd_449 : Cond.fieldLink "StageMachine$Rope" 45 "StageMachine$Rope" "gone" "Z" ∈ gtb := gt_in (tb_2_13 (i := 1) rfl) (by decide +kernel)
theorem wd_450 : Cond.fieldLink "StageMachine$Change" 83 "StageMachine$Rope" "gone" "Z" ∈ gtb := gt_in (tb_2_13 (i := 2) rfl) (by decide +kernel)
theorem wd_451 : Cond.fieldLink "StageMachine$Stage" 105 "StageMachine$Rope" "gone" "Z" ∈ gtb := gt_in (tb_2_13 (i := 3) rfl) (by decide +kernel)
theorem wd_452 : Cond.fieldLink "StageMachine$Stage" 195 "StageMachine$Rope" "keptDrum" "LStageMachine$Drum;" ∈ gtb := gt_in (tb_2_13 (i := 4) rfl) (by decide +kernel)
theorem wd_453 : Cond.fieldLink "StageMachine$Stage" 198 "StageMachine$Rope" "keptStart" "I" ∈ gtb := gt_in (tb_2_13 (i := 5) rfl) (by decide +kernel)
theorem wd_454 : Cond.fieldLink "StageMachine$Stage" 201 "StageMachine$Rope" "keptDone" "I" ∈ gtb := gt_in (tb_2_13 (i := 6) rfl) (by decide +kernel)
theorem wd_480 : Cond.methodLink "StageMachineLaw" 37 ⟨"StageMachine", "ofRope", "(II)I"⟩ ∈ gtb := gt_in (tb_3_0 (i := 0) rfl) (by decide +kernel)
theorem wd_481 : Cond.instanceMethod ⟨"StageMachine", "ofRope", "(II)I"⟩ ∈ gtb := gt_in (tb_3_0 (i := 1) rfl) (by decide +kernel)
theorem wd_482 : Cond.selects "StageMachine" ⟨"StageMachine", "ofRope", "(II)I"⟩ ⟨"StageMachine", "ofRope", "(II)I"⟩ ∈ gtb := gt_in (tb_3_0 (i := 2) rfl) (by decide +kernel)
theorem wd_483 : Cond.code ⟨"StageMachine", "ofRope", "(II)I"⟩ prog_1_method_7_code 4 (some .int) ∈ gtb := gt_in (tb_3_0 (i := 3) rfl) (by decide +kernel)
theorem wd_484 : Cond.methodLink "StageMachine" 81 ⟨"StageMachine$Stage", "ropeNumbered", "(I)LStageMachine$Rope;"⟩ ∈ gtb := gt_in (tb_3_0 (i := 4) rfl) (by decide +kernel)
theorem wd_485 : Cond.instanceMethod ⟨"StageMachine$Stage", "ropeNumbered", "(I)LStageMachine$Rope;"⟩ ∈ gtb := gt_in (tb_3_0 (i := 5) rfl) (by decide +kernel)
theorem wd_486 : Cond.selects "StageMachine$Stage" ⟨"StageMachine$Stage", "ropeNumbered", "(I)LStageMachine$Rope;"⟩ ⟨"StageMachine$Stage", "ropeNumbered", "(I)LStageMachine$Rope;"⟩ ∈ gtb := gt_in (tb_3_0 (i := 6) rfl) (by decide +kernel)
theorem wd_487 : Cond.code ⟨"StageMachine$Stage", "ropeNumbered", "(I)LStageMachine$Rope;"⟩ prog_7_method_4_code 2 (Option.some (FieldType.object "StageMachine$Rope")) ∈ gtb := gt_in (tb_3_0 (i := 7) rfl) (by decide +kernel)
theorem wd_488 : Cond.constant "StageMachine" 85 (-2000000000) ∈ gtb := gt_in (tb_3_0 (i := 8) rfl) (by decide +kernel)
theorem wd_489 : Cond.methodLink "StageMachine" 86 ⟨"StageMachine$Rope", "tell", "(I)I"⟩ ∈ gtb := gt_in (tb_3_0 (i := 9) rfl) (by decide +kernel)
theorem wd_490 : Cond.instanceMethod ⟨"StageMachine$Rope", "tell", "(I)I"⟩ ∈ gtb := gt_in (tb_3_0 (i := 10) rfl) (by decide +kernel)
theorem wd_491 : Cond.selects "StageMachine$Rope" ⟨"StageMachine$Rope", "tell", "(I)I"⟩ ⟨"StageMachine$Rope", "tell", "(I)I"⟩ ∈ gtb := gt_in (tb_3_0 (i := 11) rfl) (by decide +kernel)
theorem wd_492 : Cond.code ⟨"StageMachine$Rope", "tell", "(I)I"⟩ prog_6_method_2_code 2 (some .int) ∈ gtb := gt_in (tb_3_0 (i := 12) rfl) (by decide +kernel)
theorem wd_493 : Cond.methodLink "StageMachine$Rope" 31 ⟨"StageMachine$Rope", "load", "()I"⟩ ∈ gtb := gt_in (tb_3_0 (i := 13) rfl) (by decide +kernel)
theorem wd_494 : Cond.instanceMethod ⟨"StageMachine$Rope", "load", "()I"⟩ ∈ gtb := gt_in (tb_3_0 (i := 14) rfl) (by decide +kernel)
theorem wd_495 : Cond.selects "StageMachine$Rope" ⟨"StageMachine$Rope", "load", "()I"⟩ ⟨"StageMachine$Rope", "load", "()I"⟩ ∈ gtb := gt_in (tb_3_0 (i := 15) rfl) (by decide +kernel)
theorem wd_496 : Cond.code ⟨"StageMachine$Rope", "load", "()I"⟩ prog_6_method_3_code 1 (some .int) ∈ gtb := gt_in (tb_3_1 (i := 0) rfl) (by decide +kernel)
theorem wd_498 : Cond.static ⟨"StageMachine", "quotientUp", "(II)I"⟩ ∈ gtb := gt_in (tb_3_1 (i := 2) rfl) (by decide +kernel)
theorem wd_499 : Cond.code ⟨"StageMachine", "quotientUp", "(II)I"⟩ prog_1_method_40_code 2 (some .int) ∈ gtb := gt_in (tb_3_1 (i := 3) rfl) (by decide +kernel)
theorem wd_500 : Cond.constant "StageMachine$Rope" 49 (-2000000000) ∈ gtb := gt_in (tb_3_1 (i := 4) rfl) (by decide +kernel)
theorem wd_501 : Cond.methodLink "StageMachineLaw" 41 ⟨"StageMachine", "tie", "(II)I"⟩ ∈ gtb := gt_in (tb_3_1 (i := 5) rfl) (by decide +kernel)
theorem wd_502 : Cond.instanceMethod ⟨"StageMachine", "tie", "(II)I"⟩ ∈ gtb := gt_in (tb_3_1 (i := 6) rfl) (by decide +kernel)
theorem wd_503 : Cond.selects "StageMachine" ⟨"StageMachine", "tie", "(II)I"⟩ ⟨"StageMachine", "tie", "(II)I"⟩ ∈ gtb := gt_in (tb_3_1 (i := 7) rfl) (by decide +kernel)
theorem wd_504 : Cond.code ⟨"StageMachine", "tie", "(II)I"⟩ prog_1_method_8_code 4 (some .int) ∈ gtb := gt_in (tb_3_1 (i := 8) rfl) (by decide +kernel)
theorem wd_505 : Cond.methodLink "StageMachine" 89 ⟨"StageMachine$Stage", "tieRope", "(II)I"⟩ ∈ gtb := gt_in (tb_3_1 (i := 9) rfl) (by decide +kernel)
theorem wd_506 : Cond.instanceMethod ⟨"StageMachine$Stage", "tieRope", "(II)I"⟩ ∈ gtb := gt_in (tb_3_1 (i := 10) rfl) (by decide +kernel)
theorem wd_507 : Cond.selects "StageMachine$Stage" ⟨"StageMachine$Stage", "tieRope", "(II)I"⟩ ⟨"StageMachine$Stage", "tieRope", "(II)I"⟩ ∈ gtb := gt_in (tb_3_1 (i := 11) rfl) (by decide +kernel)
theorem wd_508 : Cond.code ⟨"StageMachine$Stage", "tieRope", "(II)I"⟩ prog_7_method_10_code 5 (some .int) ∈ gtb := gt_in (tb_3_1 (i := 12) rfl) (by decide +kernel)
theorem wd_509 : Cond.methodLink "StageMachine$Stage" 97 ⟨"StageMachine$Stage", "ropeNumbered", "(I)LStageMachine$Rope;"⟩ ∈ gtb := gt_in (tb_3_1 (i := 13) rfl) (by decide +kernel)
theorem wd_510 : Cond.methodLink "StageMachine$Stage" 101 ⟨"StageMachine$Stage", "drumNumbered", "(I)LStageMachine$Drum;"⟩ ∈ gtb := gt_in (tb_3_1 (i := 14) rfl) (by decide +kernel)
theorem wd_511 : Cond.instanceMethod ⟨"StageMachine$Stage", "drumNumbered", "(I)LStageMachine$Drum;"⟩ ∈ gtb := gt_in (tb_3_1 (i := 15) rfl) (by decide +kernel)
theorem wd_512 : Cond.selects "StageMachine$Stage" ⟨"StageMachine$Stage", "drumNumbered", "(I)LStageMachine$Drum;"⟩ ⟨"StageMachine$Stage", "drumNumbered", "(I)LStageMachine$Drum;"⟩ ∈ gtb := gt_in (tb_3_2 (i := 0) rfl) (by decide +kernel)
theorem wd_513 : Cond.code ⟨"StageMachine$Stage", "drumNumbered", "(I)LStageMachine$Drum;"⟩ prog_7_method_3_code 2 (Option.some (FieldType.object "StageMachine$Drum")) ∈ gtb := gt_in (tb_3_2 (i := 1) rfl) (by decide +kernel)
theorem wd_514 : Cond.methodLink "StageMachine$Stage" 117 ⟨"StageMachine$Rope", "spare", "()I"⟩ ∈ gtb := gt_in (tb_3_2 (i := 2) rfl) (by decide +kernel)
theorem wd_515 : Cond.instanceMethod ⟨"StageMachine$Rope", "spare", "()I"⟩ ∈ gtb := gt_in (tb_3_2 (i := 3) rfl) (by decide +kernel)
theorem wd_516 : Cond.selects "StageMachine$Rope" ⟨"StageMachine$Rope", "spare", "()I"⟩ ⟨"StageMachine$Rope", "spare", "()I"⟩ ∈ gtb := gt_in (tb_3_2 (i := 4) rfl) (by decide +kernel)
theorem wd_517 : Cond.code ⟨"StageMachine$Rope", "spare", "()I"⟩ prog_6_method_4_code 1 (some .int) ∈ gtb := gt_in (tb_3_2 (i := 5) rfl) (by decide +kernel)
theorem wd_518 : Cond.methodLink "StageMachine$Stage" 121 ⟨"StageMachine$Rope", "bind", "(LStageMachine$Drum;)V"⟩ ∈ gtb := gt_in (tb_3_2 (i := 6) rfl) (by decide +kernel)
theorem wd_519 : Cond.instanceMethod ⟨"StageMachine$Rope", "bind", "(LStageMachine$Drum;)V"⟩ ∈ gtb := gt_in (tb_3_2 (i := 7) rfl) (by decide +kernel)
theorem wd_520 : Cond.selects "StageMachine$Rope" ⟨"StageMachine$Rope", "bind", "(LStageMachine$Drum;)V"⟩ ⟨"StageMachine$Rope", "bind", "(LStageMachine$Drum;)V"⟩ ∈ gtb := gt_in (tb_3_2 (i := 8) rfl) (by decide +kernel)
theorem wd_521 : Cond.code ⟨"StageMachine$Rope", "bind", "(LStageMachine$Drum;)V"⟩ prog_6_method_10_code 2 none ∈ gtb := gt_in (tb_3_2 (i := 9) rfl) (by decide +kernel)
theorem wd_522 : Cond.methodLink "StageMachineLaw" 45 ⟨"StageMachine", "untie", "(I)I"⟩ ∈ gtb := gt_in (tb_3_2 (i := 10) rfl) (by decide +kernel)
theorem wd_523 : Cond.instanceMethod ⟨"StageMachine", "untie", "(I)I"⟩ ∈ gtb := gt_in (tb_3_2 (i := 11) rfl) (by decide +kernel)
theorem wd_524 : Cond.selects "StageMachine" ⟨"StageMachine", "untie", "(I)I"⟩ ⟨"StageMachine", "untie", "(I)I"⟩ ∈ gtb := gt_in (tb_3_2 (i := 12) rfl) (by decide +kernel)
theorem wd_525 : Cond.code ⟨"StageMachine", "untie", "(I)I"⟩ prog_1_method_9_code 3 (some .int) ∈ gtb := gt_in (tb_3_2 (i := 13) rfl) (by decide +kernel)
theorem wd_526 : Cond.methodLink "StageMachine" 93 ⟨"StageMachine$Stage", "untieRope", "(I)I"⟩ ∈ gtb := gt_in (tb_3_2 (i := 14) rfl) (by decide +kernel)
theorem wd_527 : Cond.instanceMethod ⟨"StageMachine$Stage", "untieRope", "(I)I"⟩ ∈ gtb := gt_in (tb_3_2 (i := 15) rfl) (by decide +kernel)
theorem wd_528 : Cond.selects "StageMachine$Stage" ⟨"StageMachine$Stage", "untieRope", "(I)I"⟩ ⟨"StageMachine$Stage", "untieRope", "(I)I"⟩ ∈ gtb := gt_in (tb_3_3 (i := 0) rfl) (by decide +kernel)
theorem wd_529 : Cond.code ⟨"StageMachine$Stage", "untieRope", "(I)I"⟩ prog_7_method_11_code 4 (some .int) ∈ gtb := gt_in (tb_3_3 (i := 1) rfl) (by decide +kernel)
theorem wd_530 : Cond.constant "StageMachine$Stage" 129 (-2000000000) ∈ gtb := gt_in (tb_3_3 (i := 2) rfl) (by decide +kernel)
theorem wd_531 : Cond.methodLink "StageMachine$Stage" 133 ⟨"StageMachine$Rope", "loosen", "()V"⟩ ∈ gtb := gt_in (tb_3_3 (i := 3) rfl) (by decide +kernel)
theorem wd_532 : Cond.instanceMethod ⟨"StageMachine$Rope", "loosen", "()V"⟩ ∈ gtb := gt_in (tb_3_3 (i := 4) rfl) (by decide +kernel)
theorem wd_533 : Cond.selects "StageMachine$Rope" ⟨"StageMachine$Rope", "loosen", "()V"⟩ ⟨"StageMachine$Rope", "loosen", "()V"⟩ ∈ gtb := gt_in (tb_3_3 (i := 5) rfl) (by decide +kernel)
theorem wd_534 : Cond.code ⟨"StageMachine$Rope", "loosen", "()V"⟩ prog_6_method_11_code 1 none ∈ gtb := gt_in (tb_3_3 (i := 6) rfl) (by decide +kernel)
theorem wd_535 : Cond.methodLink "StageMachineLaw" 49 ⟨"StageMachine", "weight", "(II)I"⟩ ∈ gtb := gt_in (tb_3_3 (i := 7) rfl) (by decide +kernel)
theorem wd_536 : Cond.instanceMethod ⟨"StageMachine", "weight", "(II)I"⟩ ∈ gtb := gt_in (tb_3_3 (i := 8) rfl) (by decide +kernel)
theorem wd_537 : Cond.selects "StageMachine" ⟨"StageMachine", "weight", "(II)I"⟩ ⟨"StageMachine", "weight", "(II)I"⟩ ∈ gtb := gt_in (tb_3_3 (i := 9) rfl) (by decide +kernel)
theorem wd_538 : Cond.code ⟨"StageMachine", "weight", "(II)I"⟩ prog_1_method_10_code 4 (some .int) ∈ gtb := gt_in (tb_3_3 (i := 10) rfl) (by decide +kernel)
theorem wd_539 : Cond.methodLink "StageMachine" 96 ⟨"StageMachine$Stage", "setWeight", "(II)I"⟩ ∈ gtb := gt_in (tb_3_3 (i := 11) rfl) (by decide +kernel)
theorem wd_540 : Cond.instanceMethod ⟨"StageMachine$Stage", "setWeight", "(II)I"⟩ ∈ gtb := gt_in (tb_3_3 (i := 12) rfl) (by decide +kernel)
theorem wd_541 : Cond.selects "StageMachine$Stage" ⟨"StageMachine$Stage", "setWeight", "(II)I"⟩ ⟨"StageMachine$Stage", "setWeight", "(II)I"⟩ ∈ gtb := gt_in (tb_3_3 (i := 13) rfl) (by decide +kernel)
theorem wd_542 : Cond.code ⟨"StageMachine$Stage", "setWeight", "(II)I"⟩ prog_7_method_13_code 4 (some .int) ∈ gtb := gt_in (tb_3_3 (i := 14) rfl) (by decide +kernel)
theorem wd_543 : Cond.methodLink "StageMachineLaw" 53 ⟨"StageMachine", "bound", "(I)I"⟩ ∈ gtb := gt_in (tb_3_3 (i := 15) rfl) (by decide +kernel)
theorem wd_544 : Cond.instanceMethod ⟨"StageMachine", "bound", "(I)I"⟩ ∈ gtb := gt_in (tb_3_4 (i := 0) rfl) (by decide +kernel)
theorem wd_545 : Cond.selects "StageMachine" ⟨"StageMachine", "bound", "(I)I"⟩ ⟨"StageMachine", "bound", "(I)I"⟩ ∈ gtb := gt_in (tb_3_4 (i := 1) rfl) (by decide +kernel)
theorem wd_546 : Cond.code ⟨"StageMachine", "bound", "(I)I"⟩ prog_1_method_11_code 2 (some .int) ∈ gtb := gt_in (tb_3_4 (i := 2) rfl) (by decide +kernel)
theorem wd_547 : Cond.methodLink "StageMachine" 99 ⟨"StageMachine$Stage", "setBound", "(I)I"⟩ ∈ gtb := gt_in (tb_3_4 (i := 3) rfl) (by decide +kernel)
theorem wd_548 : Cond.instanceMethod ⟨"StageMachine$Stage", "setBound", "(I)I"⟩ ∈ gtb := gt_in (tb_3_4 (i := 4) rfl) (by decide +kernel)
theorem wd_549 : Cond.selects "StageMachine$Stage" ⟨"StageMachine$Stage", "setBound", "(I)I"⟩ ⟨"StageMachine$Stage", "setBound", "(I)I"⟩ ∈ gtb := gt_in (tb_3_4 (i := 5) rfl) (by decide +kernel)
theorem wd_550 : Cond.code ⟨"StageMachine$Stage", "setBound", "(I)I"⟩ prog_7_method_14_code 3 (some .int) ∈ gtb := gt_in (tb_3_4 (i := 6) rfl) (by decide +kernel)
theorem wd_551 : Cond.methodLink "StageMachineLaw" 57 ⟨"StageMachine", "pull", "()I"⟩ ∈ gtb := gt_in (tb_3_4 (i := 7) rfl) (by decide +kernel)
theorem wd_552 : Cond.instanceMethod ⟨"StageMachine", "pull", "()I"⟩ ∈ gtb := gt_in (tb_3_4 (i := 8) rfl) (by decide +kernel)
theorem wd_553 : Cond.selects "StageMachine" ⟨"StageMachine", "pull", "()I"⟩ ⟨"StageMachine", "pull", "()I"⟩ ∈ gtb := gt_in (tb_3_4 (i := 9) rfl) (by decide +kernel)
theorem wd_554 : Cond.code ⟨"StageMachine", "pull", "()I"⟩ prog_1_method_12_code 1 (some .int) ∈ gtb := gt_in (tb_3_4 (i := 10) rfl) (by decide +kernel)
theorem wd_555 : Cond.methodLink "StageMachine" 102 ⟨"StageMachine$Stage", "pullNow", "()I"⟩ ∈ gtb := gt_in (tb_3_4 (i := 11) rfl) (by decide +kernel)
theorem wd_556 : Cond.instanceMethod ⟨"StageMachine$Stage", "pullNow", "()I"⟩ ∈ gtb := gt_in (tb_3_4 (i := 12) rfl) (by decide +kernel)
theorem wd_557 : Cond.selects "StageMachine$Stage" ⟨"StageMachine$Stage", "pullNow", "()I"⟩ ⟨"StageMachine$Stage", "pullNow", "()I"⟩ ∈ gtb := gt_in (tb_3_4 (i := 13) rfl) (by decide +kernel)
theorem wd_558 : Cond.code ⟨"StageMachine$Stage", "pullNow", "()I"⟩ prog_7_method_15_code 1 (some .int) ∈ gtb := gt_in (tb_3_4 (i := 14) rfl) (by decide +kernel)
theorem wd_559 : Cond.methodLink "StageMachine$Stage" 136 ⟨"StageMachine$Stage", "place", "(I)V"⟩ ∈ gtb := gt_in (tb_3_4 (i := 15) rfl) (by decide +kernel)
theorem wd_560 : Cond.instanceMethod ⟨"StageMachine$Stage", "place", "(I)V"⟩ ∈ gtb := gt_in (tb_3_5 (i := 0) rfl) (by decide +kernel)
theorem wd_561 : Cond.selects "StageMachine$Stage" ⟨"StageMachine$Stage", "place", "(I)V"⟩ ⟨"StageMachine$Stage", "place", "(I)V"⟩ ∈ gtb := gt_in (tb_3_5 (i := 1) rfl) (by decide +kernel)
theorem wd_562 : Cond.code ⟨"StageMachine$Stage", "place", "(I)V"⟩ prog_7_method_16_code 5 none ∈ gtb := gt_in (tb_3_5 (i := 2) rfl) (by decide +kernel)
theorem wd_563 : Cond.methodLink "StageMachine$Stage" 146 ⟨"StageMachine$Rope", "doneAfter", "(I)I"⟩ ∈ gtb := gt_in (tb_3_5 (i := 3) rfl) (by decide +kernel)
theorem wd_564 : Cond.instanceMethod ⟨"StageMachine$Rope", "doneAfter", "(I)I"⟩ ∈ gtb := gt_in (tb_3_5 (i := 4) rfl) (by decide +kernel)
theorem wd_565 : Cond.selects "StageMachine$Rope" ⟨"StageMachine$Rope", "doneAfter", "(I)I"⟩ ⟨"StageMachine$Rope", "doneAfter", "(I)I"⟩ ∈ gtb := gt_in (tb_3_5 (i := 5) rfl) (by decide +kernel)
theorem wd_566 : Cond.code ⟨"StageMachine$Rope", "doneAfter", "(I)I"⟩ prog_6_method_6_code 2 (some .int) ∈ gtb := gt_in (tb_3_5 (i := 6) rfl) (by decide +kernel)
theorem wd_567 : Cond.methodLink "StageMachine$Stage" 150 ⟨"StageMachine$Rope", "placeFrom", "(II)I"⟩ ∈ gtb := gt_in (tb_3_5 (i := 7) rfl) (by decide +kernel)
theorem wd_568 : Cond.instanceMethod ⟨"StageMachine$Rope", "placeFrom", "(II)I"⟩ ∈ gtb := gt_in (tb_3_5 (i := 8) rfl) (by decide +kernel)
theorem wd_569 : Cond.selects "StageMachine$Rope" ⟨"StageMachine$Rope", "placeFrom", "(II)I"⟩ ⟨"StageMachine$Rope", "placeFrom", "(II)I"⟩ ∈ gtb := gt_in (tb_3_5 (i := 9) rfl) (by decide +kernel)
theorem wd_570 : Cond.code ⟨"StageMachine$Rope", "placeFrom", "(II)I"⟩ prog_6_method_5_code 3 (some .int) ∈ gtb := gt_in (tb_3_5 (i := 10) rfl) (by decide +kernel)
theorem wd_572 : Cond.static ⟨"StageMachine", "quotient", "(II)I"⟩ ∈ gtb := gt_in (tb_3_5 (i := 12) rfl) (by decide +kernel)
theorem wd_573 : Cond.code ⟨"StageMachine", "quotient", "(II)I"⟩ prog_1_method_39_code 2 (some .int) ∈ gtb := gt_in (tb_3_5 (i := 13) rfl) (by decide +kernel)
theorem wd_574 : Cond.methodLink "StageMachine$Stage" 140 ⟨"StageMachine$Stage", "trialPull", "()I"⟩ ∈ gtb := gt_in (tb_3_5 (i := 14) rfl) (by decide +kernel)
theorem wd_575 : Cond.instanceMethod ⟨"StageMachine$Stage", "trialPull", "()I"⟩ ∈ gtb := gt_in (tb_3_5 (i := 15) rfl) (by decide +kernel)
theorem wd_576 : Cond.selects "StageMachine$Stage" ⟨"StageMachine$Stage", "trialPull", "()I"⟩ ⟨"StageMachine$Stage", "trialPull", "()I"⟩ ∈ gtb := gt_in (tb_3_6 (i := 0) rfl) (by decide +kernel)
theorem wd_577 : Cond.code ⟨"StageMachine$Stage", "trialPull", "()I"⟩ prog_7_method_17_code 3 (some .int) ∈ gtb := gt_in (tb_3_6 (i := 1) rfl) (by decide +kernel)
theorem wd_578 : Cond.methodLink "StageMachine$Stage" 157 ⟨"StageMachine$Rope", "pullAt", "(I)I"⟩ ∈ gtb := gt_in (tb_3_6 (i := 2) rfl) (by decide +kernel)
theorem wd_579 : Cond.instanceMethod ⟨"StageMachine$Rope", "pullAt", "(I)I"⟩ ∈ gtb := gt_in (tb_3_6 (i := 3) rfl) (by decide +kernel)
theorem wd_580 : Cond.selects "StageMachine$Rope" ⟨"StageMachine$Rope", "pullAt", "(I)I"⟩ ⟨"StageMachine$Rope", "pullAt", "(I)I"⟩ ∈ gtb := gt_in (tb_3_6 (i := 4) rfl) (by decide +kernel)
theorem wd_581 : Cond.code ⟨"StageMachine$Rope", "pullAt", "(I)I"⟩ prog_6_method_7_code 2 (some .int) ∈ gtb := gt_in (tb_3_6 (i := 5) rfl) (by decide +kernel)
theorem wd_582 : Cond.methodLink "StageMachineLaw" 62 ⟨"StageMachine", "turn", "(I)I"⟩ ∈ gtb := gt_in (tb_3_6 (i := 6) rfl) (by decide +kernel)
theorem wd_583 : Cond.instanceMethod ⟨"StageMachine", "turn", "(I)I"⟩ ∈ gtb := gt_in (tb_3_6 (i := 7) rfl) (by decide +kernel)
theorem wd_584 : Cond.selects "StageMachine" ⟨"StageMachine", "turn", "(I)I"⟩ ⟨"StageMachine", "turn", "(I)I"⟩ ∈ gtb := gt_in (tb_3_6 (i := 8) rfl) (by decide +kernel)
theorem wd_585 : Cond.code ⟨"StageMachine", "turn", "(I)I"⟩ prog_1_method_13_code 3 (some .int) ∈ gtb := gt_in (tb_3_6 (i := 9) rfl) (by decide +kernel)
theorem wd_586 : Cond.methodLink "StageMachine" 106 ⟨"StageMachine", "isTurn", "(I)Z"⟩ ∈ gtb := gt_in (tb_3_6 (i := 10) rfl) (by decide +kernel)
theorem wd_587 : Cond.static ⟨"StageMachine", "isTurn", "(I)Z"⟩ ∈ gtb := gt_in (tb_3_6 (i := 11) rfl) (by decide +kernel)
theorem wd_588 : Cond.code ⟨"StageMachine", "isTurn", "(I)Z"⟩ prog_1_method_37_code 1 (some .boolean) ∈ gtb := gt_in (tb_3_6 (i := 12) rfl) (by decide +kernel)
theorem wd_589 : Cond.methodLink "StageMachine" 234 ⟨"StageMachine", "isWithin", "(III)Z"⟩ ∈ gtb := gt_in (tb_3_6 (i := 13) rfl) (by decide +kernel)
theorem wd_590 : Cond.methodLink "StageMachine" 110 ⟨"StageMachine$Turning", "turnBy", "(I)I"⟩ ∈ gtb := gt_in (tb_3_6 (i := 14) rfl) (by decide +kernel)
theorem wd_591 : Cond.instanceMethod ⟨"StageMachine$Turning", "turnBy", "(I)I"⟩ ∈ gtb := gt_in (tb_3_6 (i := 15) rfl) (by decide +kernel)
theorem wd_592 : Cond.selects "StageMachine$Turning" ⟨"StageMachine$Turning", "turnBy", "(I)I"⟩ ⟨"StageMachine$Turning", "turnBy", "(I)I"⟩ ∈ gtb := gt_in (tb_3_7 (i := 0) rfl) (by decide +kernel)
theorem wd_593 : Cond.code ⟨"StageMachine$Turning", "turnBy", "(I)I"⟩ prog_12_method_2_code 3 (some .int) ∈ gtb := gt_in (tb_3_7 (i := 1) rfl) (by decide +kernel)
theorem wd_594 : Cond.methodLink "StageMachine$Turning" 25 ⟨"StageMachine$Turning", "lookAhead", "(I)I"⟩ ∈ gtb := gt_in (tb_3_7 (i := 2) rfl) (by decide +kernel)
theorem wd_595 : Cond.instanceMethod ⟨"StageMachine$Turning", "lookAhead", "(I)I"⟩ ∈ gtb := gt_in (tb_3_7 (i := 3) rfl) (by decide +kernel)
theorem wd_596 : Cond.selects "StageMachine$Turning" ⟨"StageMachine$Turning", "lookAhead", "(I)I"⟩ ⟨"StageMachine$Turning", "lookAhead", "(I)I"⟩ ∈ gtb := gt_in (tb_3_7 (i := 4) rfl) (by decide +kernel)
theorem wd_597 : Cond.code ⟨"StageMachine$Turning", "lookAhead", "(I)I"⟩ prog_12_method_3_code 5 (some .int) ∈ gtb := gt_in (tb_3_7 (i := 5) rfl) (by decide +kernel)
theorem wd_598 : Cond.methodLink "StageMachine$Turning" 49 ⟨"java/lang/Math", "abs", "(I)I"⟩ ∈ gtb := gt_in (tb_3_7 (i := 6) rfl) (by decide +kernel)
theorem wd_599 : Cond.static ⟨"java/lang/Math", "abs", "(I)I"⟩ ∈ gtb := gt_in (tb_3_7 (i := 7) rfl) (by decide +kernel)
theorem wd_600 : Cond.code ⟨"java/lang/Math", "abs", "(I)I"⟩ prog_16_method_59_code 1 (some .int) ∈ gtb := gt_in (tb_3_7 (i := 8) rfl) (by decide +kernel)
theorem wd_601 : Cond.methodLink "StageMachine$Turning" 39 ⟨"StageMachine$Stop", "put", "(III)V"⟩ ∈ gtb := gt_in (tb_3_7 (i := 9) rfl) (by decide +kernel)
theorem wd_602 : Cond.instanceMethod ⟨"StageMachine$Stop", "put", "(III)V"⟩ ∈ gtb := gt_in (tb_3_7 (i := 10) rfl) (by decide +kernel)
theorem wd_603 : Cond.selects "StageMachine$Stop" ⟨"StageMachine$Stop", "put", "(III)V"⟩ ⟨"StageMachine$Stop", "put", "(III)V"⟩ ∈ gtb := gt_in (tb_3_7 (i := 11) rfl) (by decide +kernel)
theorem wd_604 : Cond.code ⟨"StageMachine$Stop", "put", "(III)V"⟩ prog_9_method_2_code 4 none ∈ gtb := gt_in (tb_3_7 (i := 12) rfl) (by decide +kernel)
theorem wd_605 : Cond.methodLink "StageMachine$Turning" 54 ⟨"StageMachine$Stage", "place", "(I)V"⟩ ∈ gtb := gt_in (tb_3_7 (i := 13) rfl) (by decide +kernel)
theorem wd_606 : Cond.methodLink "StageMachine$Turning" 57 ⟨"StageMachine$Turning", "isBeyond", "()Z"⟩ ∈ gtb := gt_in (tb_3_7 (i := 14) rfl) (by decide +kernel)
theorem wd_608 : Cond.instanceMethod ⟨"StageMachine$Turning", "isBeyond", "()Z"⟩ ∈ gtb := gt_in (tb_3_8 (i := 0) rfl) (by decide +kernel)
theorem wd_609 : Cond.code ⟨"StageMachine$Turning", "isBeyond", "()Z"⟩ prog_12_method_5_code 3 (some .boolean) ∈ gtb := gt_in (tb_3_8 (i := 1) rfl) (by decide +kernel)
theorem wd_611 : Cond.methodLink "StageMachine$Turning" 61 ⟨"StageMachine$Turning", "isMeeting", "()Z"⟩ ∈ gtb := gt_in (tb_3_8 (i := 3) rfl) (by decide +kernel)
theorem wd_613 : Cond.instanceMethod ⟨"StageMachine$Turning", "isMeeting", "()Z"⟩ ∈ gtb := gt_in (tb_3_8 (i := 5) rfl) (by decide +kernel)
theorem wd_614 : Cond.code ⟨"StageMachine$Turning", "isMeeting", "()Z"⟩ prog_12_method_6_code 3 (some .boolean) ∈ gtb := gt_in (tb_3_8 (i := 6) rfl) (by decide +kernel)
theorem wd_615 : Cond.methodLink "StageMachine$Turning" 116 ⟨"StageMachine$Thing", "wouldMeet", "(LStageMachine$Thing;)Z"⟩ ∈ gtb := gt_in (tb_3_8 (i := 7) rfl) (by decide +kernel)
theorem wd_616 : Cond.instanceMethod ⟨"StageMachine$Thing", "wouldMeet", "(LStageMachine$Thing;)Z"⟩ ∈ gtb := gt_in (tb_3_8 (i := 8) rfl) (by decide +kernel)
theorem wd_617 : Cond.selects "StageMachine$Thing" ⟨"StageMachine$Thing", "wouldMeet", "(LStageMachine$Thing;)Z"⟩ ⟨"StageMachine$Thing", "wouldMeet", "(LStageMachine$Thing;)Z"⟩ ∈ gtb := gt_in (tb_3_8 (i := 9) rfl) (by decide +kernel)
theorem wd_618 : Cond.code ⟨"StageMachine$Thing", "wouldMeet", "(LStageMachine$Thing;)Z"⟩ prog_11_method_5_code 2 (some .boolean) ∈ gtb := gt_in (tb_3_8 (i := 10) rfl) (by decide +kernel)
theorem wd_620 : Cond.methodLink "StageMachine$Turning" 64 ⟨"StageMachine$Stage", "trialPull", "()I"⟩ ∈ gtb := gt_in (tb_3_8 (i := 12) rfl) (by decide +kernel)
theorem wd_621 : Cond.methodLink "StageMachine$Turning" 68 ⟨"StageMachine$Turning", "isUneven", "(I)Z"⟩ ∈ gtb := gt_in (tb_3_8 (i := 13) rfl) (by decide +kernel)
theorem wd_623 : Cond.instanceMethod ⟨"StageMachine$Turning", "isUneven", "(I)Z"⟩ ∈ gtb := gt_in (tb_3_8 (i := 15) rfl) (by decide +kernel)
theorem wd_624 : Cond.code ⟨"StageMachine$Turning", "isUneven", "(I)Z"⟩ prog_12_method_7_code 2 (some .boolean) ∈ gtb := gt_in (tb_3_9 (i := 0) rfl) (by decide +kernel)
theorem wd_625 : Cond.methodLink "StageMachine$Turning" 72 ⟨"StageMachine$Turning", "stepsToNextMove", "(II)I"⟩ ∈ gtb := gt_in (tb_3_9 (i := 1) rfl) (by decide +kernel)
theorem wd_627 : Cond.instanceMethod ⟨"StageMachine$Turning", "stepsToNextMove", "(II)I"⟩ ∈ gtb := gt_in (tb_3_9 (i := 3) rfl) (by decide +kernel)
theorem wd_628 : Cond.code ⟨"StageMachine$Turning", "stepsToNextMove", "(II)I"⟩ prog_12_method_4_code 5 (some .int) ∈ gtb := gt_in (tb_3_9 (i := 4) rfl) (by decide +kernel)
theorem wd_629 : Cond.methodLink "StageMachine$Turning" 86 ⟨"StageMachine$Rope", "stepsToNextPlace", "(II)I"⟩ ∈ gtb := gt_in (tb_3_9 (i := 5) rfl) (by decide +kernel)
theorem wd_630 : Cond.instanceMethod ⟨"StageMachine$Rope", "stepsToNextPlace", "(II)I"⟩ ∈ gtb := gt_in (tb_3_9 (i := 6) rfl) (by decide +kernel)
theorem wd_631 : Cond.selects "StageMachine$Rope" ⟨"StageMachine$Rope", "stepsToNextPlace", "(II)I"⟩ ⟨"StageMachine$Rope", "stepsToNextPlace", "(II)I"⟩ ∈ gtb := gt_in (tb_3_9 (i := 7) rfl) (by decide +kernel)
theorem wd_632 : Cond.code ⟨"StageMachine$Rope", "stepsToNextPlace", "(II)I"⟩ prog_6_method_8_code 7 (some .int) ∈ gtb := gt_in (tb_3_9 (i := 8) rfl) (by decide +kernel)
theorem wd_633 : Cond.methodLink "StageMachine$Turning" 91 ⟨"java/lang/Math", "min", "(II)I"⟩ ∈ gtb := gt_in (tb_3_9 (i := 9) rfl) (by decide +kernel)
theorem wd_634 : Cond.static ⟨"java/lang/Math", "min", "(II)I"⟩ ∈ gtb := gt_in (tb_3_9 (i := 10) rfl) (by decide +kernel)
theorem wd_635 : Cond.code ⟨"java/lang/Math", "min", "(II)I"⟩ prog_16_method_69_code 2 (some .int) ∈ gtb := gt_in (tb_3_9 (i := 11) rfl) (by decide +kernel)
theorem wd_636 : Cond.methodLink "StageMachine$Turning" 76 ⟨"java/lang/Math", "max", "(II)I"⟩ ∈ gtb := gt_in (tb_3_9 (i := 12) rfl) (by decide +kernel)
theorem wd_637 : Cond.static ⟨"java/lang/Math", "max", "(II)I"⟩ ∈ gtb := gt_in (tb_3_9 (i := 13) rfl) (by decide +kernel)
theorem wd_638 : Cond.code ⟨"java/lang/Math", "max", "(II)I"⟩ prog_16_method_65_code 2 (some .int) ∈ gtb := gt_in (tb_3_9 (i := 14) rfl) (by decide +kernel)
theorem wd_639 : Cond.methodLink "StageMachine$Turning" 43 ⟨"StageMachine$Stage", "advance", "(I)V"⟩ ∈ gtb := gt_in (tb_3_9 (i := 15) rfl) (by decide +kernel)
theorem wd_640 : Cond.instanceMethod ⟨"StageMachine$Stage", "advance", "(I)V"⟩ ∈ gtb := gt_in (tb_3_10 (i := 0) rfl) (by decide +kernel)
theorem wd_641 : Cond.selects "StageMachine$Stage" ⟨"StageMachine$Stage", "advance", "(I)V"⟩ ⟨"StageMachine$Stage", "advance", "(I)V"⟩ ∈ gtb := gt_in (tb_3_10 (i := 1) rfl) (by decide +kernel)
theorem wd_642 : Cond.code ⟨"StageMachine$Stage", "advance", "(I)V"⟩ prog_7_method_18_code 3 none ∈ gtb := gt_in (tb_3_10 (i := 2) rfl) (by decide +kernel)
theorem wd_643 : Cond.methodLink "StageMachine$Stage" 160 ⟨"StageMachine$Rope", "advance", "(I)V"⟩ ∈ gtb := gt_in (tb_3_10 (i := 3) rfl) (by decide +kernel)
theorem wd_644 : Cond.instanceMethod ⟨"StageMachine$Rope", "advance", "(I)V"⟩ ∈ gtb := gt_in (tb_3_10 (i := 4) rfl) (by decide +kernel)
theorem wd_645 : Cond.selects "StageMachine$Rope" ⟨"StageMachine$Rope", "advance", "(I)V"⟩ ⟨"StageMachine$Rope", "advance", "(I)V"⟩ ∈ gtb := gt_in (tb_3_10 (i := 5) rfl) (by decide +kernel)
theorem wd_646 : Cond.code ⟨"StageMachine$Rope", "advance", "(I)V"⟩ prog_6_method_9_code 2 none ∈ gtb := gt_in (tb_3_10 (i := 6) rfl) (by decide +kernel)
theorem wd_647 : Cond.methodLink "StageMachine$Rope" 66 ⟨"StageMachine$Rope", "doneAfter", "(I)I"⟩ ∈ gtb := gt_in (tb_3_10 (i := 7) rfl) (by decide +kernel)
theorem wd_648 : Cond.methodLink "StageMachine$Rope" 70 ⟨"StageMachine$Rope", "placeFrom", "(II)I"⟩ ∈ gtb := gt_in (tb_3_10 (i := 8) rfl) (by decide +kernel)
theorem wd_649 : Cond.methodLink "StageMachine$Stage" 169 ⟨"java/lang/Math", "abs", "(I)I"⟩ ∈ gtb := gt_in (tb_3_10 (i := 9) rfl) (by decide +kernel)
theorem wd_650 : Cond.methodLink "StageMachineLaw" 66 ⟨"StageMachine", "stopped", "(I)I"⟩ ∈ gtb := gt_in (tb_3_10 (i := 10) rfl) (by decide +kernel)
theorem wd_651 : Cond.instanceMethod ⟨"StageMachine", "stopped", "(I)I"⟩ ∈ gtb := gt_in (tb_3_10 (i := 11) rfl) (by decide +kernel)
theorem wd_652 : Cond.selects "StageMachine" ⟨"StageMachine", "stopped", "(I)I"⟩ ⟨"StageMachine", "stopped", "(I)I"⟩ ∈ gtb := gt_in (tb_3_10 (i := 12) rfl) (by decide +kernel)
theorem wd_653 : Cond.code ⟨"StageMachine", "stopped", "(I)I"⟩ prog_1_method_14_code 2 (some .int) ∈ gtb := gt_in (tb_3_10 (i := 13) rfl) (by decide +kernel)
theorem wd_654 : Cond.methodLink "StageMachine" 117 ⟨"StageMachine$Stop", "tell", "(I)I"⟩ ∈ gtb := gt_in (tb_3_10 (i := 14) rfl) (by decide +kernel)
theorem wd_655 : Cond.instanceMethod ⟨"StageMachine$Stop", "tell", "(I)I"⟩ ∈ gtb := gt_in (tb_3_10 (i := 15) rfl) (by decide +kernel)
theorem wd_656 : Cond.selects "StageMachine$Stop" ⟨"StageMachine$Stop", "tell", "(I)I"⟩ ⟨"StageMachine$Stop", "tell", "(I)I"⟩ ∈ gtb := gt_in (tb_3_11 (i := 0) rfl) (by decide +kernel)
theorem wd_657 : Cond.code ⟨"StageMachine$Stop", "tell", "(I)I"⟩ prog_9_method_3_code 2 (some .int) ∈ gtb := gt_in (tb_3_11 (i := 1) rfl) (by decide +kernel)
theorem wd_658 : Cond.methodLink "StageMachineLaw" 70 ⟨"StageMachine", "free", "(I)I"⟩ ∈ gtb := gt_in (tb_3_11 (i := 2) rfl) (by decide +kernel)
theorem wd_659 : Cond.instanceMethod ⟨"StageMachine", "free", "(I)I"⟩ ∈ gtb := gt_in (tb_3_11 (i := 3) rfl) (by decide +kernel)
theorem wd_660 : Cond.selects "StageMachine" ⟨"StageMachine", "free", "(I)I"⟩ ⟨"StageMachine", "free", "(I)I"⟩ ∈ gtb := gt_in (tb_3_11 (i := 4) rfl) (by decide +kernel)
theorem wd_661 : Cond.code ⟨"StageMachine", "free", "(I)I"⟩ prog_1_method_15_code 2 (some .int) ∈ gtb := gt_in (tb_3_11 (i := 5) rfl) (by decide +kernel)
theorem wd_662 : Cond.methodLink "StageMachine" 120 ⟨"StageMachine$Turning", "lookAhead", "(I)I"⟩ ∈ gtb := gt_in (tb_3_11 (i := 6) rfl) (by decide +kernel)
theorem wd_663 : Cond.methodLink "StageMachineLaw" 74 ⟨"StageMachine", "snap", "(I)I"⟩ ∈ gtb := gt_in (tb_3_11 (i := 7) rfl) (by decide +kernel)
theorem wd_664 : Cond.instanceMethod ⟨"StageMachine", "snap", "(I)I"⟩ ∈ gtb := gt_in (tb_3_11 (i := 8) rfl) (by decide +kernel)
theorem wd_665 : Cond.selects "StageMachine" ⟨"StageMachine", "snap", "(I)I"⟩ ⟨"StageMachine", "snap", "(I)I"⟩ ∈ gtb := gt_in (tb_3_11 (i := 9) rfl) (by decide +kernel)
theorem wd_666 : Cond.code ⟨"StageMachine", "snap", "(I)I"⟩ prog_1_method_16_code 3 (some .int) ∈ gtb := gt_in (tb_3_11 (i := 10) rfl) (by decide +kernel)
theorem wd_667 : Cond.methodLink "StageMachine" 123 ⟨"StageMachine$Stage", "breakRope", "(I)I"⟩ ∈ gtb := gt_in (tb_3_11 (i := 11) rfl) (by decide +kernel)
theorem wd_668 : Cond.instanceMethod ⟨"StageMachine$Stage", "breakRope", "(I)I"⟩ ∈ gtb := gt_in (tb_3_11 (i := 12) rfl) (by decide +kernel)
theorem wd_669 : Cond.selects "StageMachine$Stage" ⟨"StageMachine$Stage", "breakRope", "(I)I"⟩ ⟨"StageMachine$Stage", "breakRope", "(I)I"⟩ ∈ gtb := gt_in (tb_3_11 (i := 13) rfl) (by decide +kernel)
theorem wd_670 : Cond.code ⟨"StageMachine$Stage", "breakRope", "(I)I"⟩ prog_7_method_19_code 4 (some .int) ∈ gtb := gt_in (tb_3_11 (i := 14) rfl) (by decide +kernel)
theorem wd_671 : Cond.methodLink "StageMachine$Stage" 177 ⟨"StageMachine$Stage", "fall", "(LStageMachine$Thing;II)I"⟩ ∈ gtb := gt_in (tb_3_11 (i := 15) rfl) (by decide +kernel)
theorem wd_673 : Cond.instanceMethod ⟨"StageMachine$Stage", "fall", "(LStageMachine$Thing;II)I"⟩ ∈ gtb := gt_in (tb_3_12 (i := 1) rfl) (by decide +kernel)
theorem wd_674 : Cond.code ⟨"StageMachine$Stage", "fall", "(LStageMachine$Thing;II)I"⟩ prog_7_method_20_code 5 (some .int) ∈ gtb := gt_in (tb_3_12 (i := 2) rfl) (by decide +kernel)
theorem wd_675 : Cond.methodLink "StageMachine$Stage" 181 ⟨"StageMachine$Stage", "canFall", "(LStageMachine$Thing;I)Z"⟩ ∈ gtb := gt_in (tb_3_12 (i := 3) rfl) (by decide +kernel)
theorem wd_677 : Cond.instanceMethod ⟨"StageMachine$Stage", "canFall", "(LStageMachine$Thing;I)Z"⟩ ∈ gtb := gt_in (tb_3_12 (i := 5) rfl) (by decide +kernel)
theorem wd_678 : Cond.code ⟨"StageMachine$Stage", "canFall", "(LStageMachine$Thing;I)Z"⟩ prog_7_method_21_code 3 (some .boolean) ∈ gtb := gt_in (tb_3_12 (i := 6) rfl) (by decide +kernel)
theorem wd_679 : Cond.methodLink "StageMachine$Stage" 185 ⟨"StageMachine$Stage", "isCatch", "(II)Z"⟩ ∈ gtb := gt_in (tb_3_12 (i := 7) rfl) (by decide +kernel)
theorem wd_681 : Cond.instanceMethod ⟨"StageMachine$Stage", "isCatch", "(II)Z"⟩ ∈ gtb := gt_in (tb_3_12 (i := 9) rfl) (by decide +kernel)
theorem wd_682 : Cond.code ⟨"StageMachine$Stage", "isCatch", "(II)Z"⟩ prog_7_method_22_code 4 (some .boolean) ∈ gtb := gt_in (tb_3_12 (i := 10) rfl) (by decide +kernel)
theorem wd_683 : Cond.methodLink "StageMachineLaw" 78 ⟨"StageMachine", "hold", "(I)I"⟩ ∈ gtb := gt_in (tb_3_12 (i := 11) rfl) (by decide +kernel)
theorem wd_684 : Cond.instanceMethod ⟨"StageMachine", "hold", "(I)I"⟩ ∈ gtb := gt_in (tb_3_12 (i := 12) rfl) (by decide +kernel)
theorem wd_685 : Cond.selects "StageMachine" ⟨"StageMachine", "hold", "(I)I"⟩ ⟨"StageMachine", "hold", "(I)I"⟩ ∈ gtb := gt_in (tb_3_12 (i := 13) rfl) (by decide +kernel)
theorem wd_686 : Cond.code ⟨"StageMachine", "hold", "(I)I"⟩ prog_1_method_17_code 2 (some .int) ∈ gtb := gt_in (tb_3_12 (i := 14) rfl) (by decide +kernel)
theorem wd_687 : Cond.methodLink "StageMachine" 126 ⟨"StageMachine$Stage", "addCatch", "(I)I"⟩ ∈ gtb := gt_in (tb_3_12 (i := 15) rfl) (by decide +kernel)
theorem wd_688 : Cond.instanceMethod ⟨"StageMachine$Stage", "addCatch", "(I)I"⟩ ∈ gtb := gt_in (tb_3_13 (i := 0) rfl) (by decide +kernel)
theorem wd_689 : Cond.selects "StageMachine$Stage" ⟨"StageMachine$Stage", "addCatch", "(I)I"⟩ ⟨"StageMachine$Stage", "addCatch", "(I)I"⟩ ∈ gtb := gt_in (tb_3_13 (i := 1) rfl) (by decide +kernel)
theorem wd_690 : Cond.code ⟨"StageMachine$Stage", "addCatch", "(I)I"⟩ prog_7_method_23_code 4 (some .int) ∈ gtb := gt_in (tb_3_13 (i := 2) rfl) (by decide +kernel)
theorem wd_691 : Cond.methodLink "StageMachineLaw" 82 ⟨"StageMachine", "scene", "(III)I"⟩ ∈ gtb := gt_in (tb_3_13 (i := 3) rfl) (by decide +kernel)
theorem wd_692 : Cond.instanceMethod ⟨"StageMachine", "scene", "(III)I"⟩ ∈ gtb := gt_in (tb_3_13 (i := 4) rfl) (by decide +kernel)
theorem wd_693 : Cond.selects "StageMachine" ⟨"StageMachine", "scene", "(III)I"⟩ ⟨"StageMachine", "scene", "(III)I"⟩ ∈ gtb := gt_in (tb_3_13 (i := 5) rfl) (by decide +kernel)
theorem wd_694 : Cond.code ⟨"StageMachine", "scene", "(III)I"⟩ prog_1_method_18_code 5 (some .int) ∈ gtb := gt_in (tb_3_13 (i := 6) rfl) (by decide +kernel)
theorem wd_695 : Cond.methodLink "StageMachine" 129 ⟨"StageMachine$Thing", "tellScene", "(II)I"⟩ ∈ gtb := gt_in (tb_3_13 (i := 7) rfl) (by decide +kernel)
theorem wd_696 : Cond.instanceMethod ⟨"StageMachine$Thing", "tellScene", "(II)I"⟩ ∈ gtb := gt_in (tb_3_13 (i := 8) rfl) (by decide +kernel)
theorem wd_697 : Cond.selects "StageMachine$Thing" ⟨"StageMachine$Thing", "tellScene", "(II)I"⟩ ⟨"StageMachine$Thing", "tellScene", "(II)I"⟩ ∈ gtb := gt_in (tb_3_13 (i := 9) rfl) (by decide +kernel)
theorem wd_698 : Cond.code ⟨"StageMachine$Thing", "tellScene", "(II)I"⟩ prog_11_method_3_code 5 (some .int) ∈ gtb := gt_in (tb_3_13 (i := 10) rfl) (by decide +kernel)
theorem wd_700 : Cond.methodLink "StageMachineLaw" 86 ⟨"StageMachine", "change", "(II)I"⟩ ∈ gtb := gt_in (tb_3_13 (i := 12) rfl) (by decide +kernel)
theorem wd_701 : Cond.instanceMethod ⟨"StageMachine", "change", "(II)I"⟩ ∈ gtb := gt_in (tb_3_13 (i := 13) rfl) (by decide +kernel)
theorem wd_702 : Cond.selects "StageMachine" ⟨"StageMachine", "change", "(II)I"⟩ ⟨"StageMachine", "change", "(II)I"⟩ ∈ gtb := gt_in (tb_3_13 (i := 14) rfl) (by decide +kernel)
theorem wd_703 : Cond.code ⟨"StageMachine", "change", "(II)I"⟩ prog_1_method_19_code 3 (some .int) ∈ gtb := gt_in (tb_3_13 (i := 15) rfl) (by decide +kernel)
theorem wd_704 : Cond.methodLink "StageMachine" 132 ⟨"StageMachine$Change", "plan", "(II)I"⟩ ∈ gtb := gt_in (tb_3_14 (i := 0) rfl) (by decide +kernel)
theorem wd_705 : Cond.instanceMethod ⟨"StageMachine$Change", "plan", "(II)I"⟩ ∈ gtb := gt_in (tb_3_14 (i := 1) rfl) (by decide +kernel)
theorem wd_706 : Cond.selects "StageMachine$Change" ⟨"StageMachine$Change", "plan", "(II)I"⟩ ⟨"StageMachine$Change", "plan", "(II)I"⟩ ∈ gtb := gt_in (tb_3_14 (i := 2) rfl) (by decide +kernel)
theorem wd_707 : Cond.code ⟨"StageMachine$Change", "plan", "(II)I"⟩ prog_3_method_2_code 7 (some .int) ∈ gtb := gt_in (tb_3_14 (i := 3) rfl) (by decide +kernel)
theorem wd_710 : Cond.methodLink "StageMachine$Change" 40 ⟨"java/util/Arrays", "fill", "([II)V"⟩ ∈ gtb := gt_in (tb_3_14 (i := 6) rfl) (by decide +kernel)
theorem wd_711 : Cond.methodLink "StageMachine$Change" 64 ⟨"StageMachine$Change", "findTie", "(LStageMachine$Thing;II)Z"⟩ ∈ gtb := gt_in (tb_3_14 (i := 7) rfl) (by decide +kernel)
theorem wd_713 : Cond.instanceMethod ⟨"StageMachine$Change", "findTie", "(LStageMachine$Thing;II)Z"⟩ ∈ gtb := gt_in (tb_3_14 (i := 9) rfl) (by decide +kernel)
theorem wd_714 : Cond.code ⟨"StageMachine$Change", "findTie", "(LStageMachine$Thing;II)Z"⟩ prog_3_method_3_code 8 (some .boolean) ∈ gtb := gt_in (tb_3_14 (i := 10) rfl) (by decide +kernel)
theorem wd_715 : Cond.methodLink "StageMachine$Change" 86 ⟨"StageMachine$Rope", "spare", "()I"⟩ ∈ gtb := gt_in (tb_3_14 (i := 11) rfl) (by decide +kernel)
theorem wd_716 : Cond.methodLink "StageMachine$Change" 90 ⟨"StageMachine$Change", "findDrum", "(LStageMachine$Rope;II)I"⟩ ∈ gtb := gt_in (tb_3_14 (i := 12) rfl) (by decide +kernel)
theorem wd_718 : Cond.instanceMethod ⟨"StageMachine$Change", "findDrum", "(LStageMachine$Rope;II)I"⟩ ∈ gtb := gt_in (tb_3_14 (i := 14) rfl) (by decide +kernel)
theorem wd_719 : Cond.code ⟨"StageMachine$Change", "findDrum", "(LStageMachine$Rope;II)I"⟩ prog_3_method_4_code 5 (some .int) ∈ gtb := gt_in (tb_3_14 (i := 15) rfl) (by decide +kernel)
theorem wd_720 : Cond.methodLink "StageMachine$Change" 108 ⟨"StageMachine$Rope", "placeFrom", "(II)I"⟩ ∈ gtb := gt_in (tb_4_0 (i := 0) rfl) (by decide +kernel)
theorem wd_721 : Cond.methodLink "StageMachine$Change" 68 ⟨"StageMachine$Change", "countWorks", "()V"⟩ ∈ gtb := gt_in (tb_4_0 (i := 1) rfl) (by decide +kernel)
theorem wd_723 : Cond.instanceMethod ⟨"StageMachine$Change", "countWorks", "()V"⟩ ∈ gtb := gt_in (tb_4_0 (i := 3) rfl) (by decide +kernel)
theorem wd_724 : Cond.code ⟨"StageMachine$Change", "countWorks", "()V"⟩ prog_3_method_5_code 3 none ∈ gtb := gt_in (tb_4_0 (i := 4) rfl) (by decide +kernel)
theorem wd_725 : Cond.methodLink "StageMachine$Change" 125 ⟨"StageMachine$Change", "isReady", "(LStageMachine$Rope;I)Z"⟩ ∈ gtb := gt_in (tb_4_0 (i := 5) rfl) (by decide +kernel)
theorem wd_727 : Cond.instanceMethod ⟨"StageMachine$Change", "isReady", "(LStageMachine$Rope;I)Z"⟩ ∈ gtb := gt_in (tb_4_0 (i := 7) rfl) (by decide +kernel)
theorem wd_728 : Cond.code ⟨"StageMachine$Change", "isReady", "(LStageMachine$Rope;I)Z"⟩ prog_3_method_6_code 3 (some .boolean) ∈ gtb := gt_in (tb_4_0 (i := 8) rfl) (by decide +kernel)
theorem wd_729 : Cond.methodLink "StageMachineLaw" 90 ⟨"StageMachine", "told", "(II)I"⟩ ∈ gtb := gt_in (tb_4_0 (i := 9) rfl) (by decide +kernel)
theorem wd_730 : Cond.instanceMethod ⟨"StageMachine", "told", "(II)I"⟩ ∈ gtb := gt_in (tb_4_0 (i := 10) rfl) (by decide +kernel)
theorem wd_731 : Cond.selects "StageMachine" ⟨"StageMachine", "told", "(II)I"⟩ ⟨"StageMachine", "told", "(II)I"⟩ ∈ gtb := gt_in (tb_4_0 (i := 11) rfl) (by decide +kernel)
theorem wd_732 : Cond.code ⟨"StageMachine", "told", "(II)I"⟩ prog_1_method_20_code 3 (some .int) ∈ gtb := gt_in (tb_4_0 (i := 12) rfl) (by decide +kernel)
theorem wd_733 : Cond.methodLink "StageMachine" 135 ⟨"StageMachine$Change", "tieOf", "(II)I"⟩ ∈ gtb := gt_in (tb_4_0 (i := 13) rfl) (by decide +kernel)
theorem wd_734 : Cond.instanceMethod ⟨"StageMachine$Change", "tieOf", "(II)I"⟩ ∈ gtb := gt_in (tb_4_0 (i := 14) rfl) (by decide +kernel)
theorem wd_735 : Cond.selects "StageMachine$Change" ⟨"StageMachine$Change", "tieOf", "(II)I"⟩ ⟨"StageMachine$Change", "tieOf", "(II)I"⟩ ∈ gtb := gt_in (tb_4_0 (i := 15) rfl) (by decide +kernel)
theorem wd_736 : Cond.code ⟨"StageMachine$Change", "tieOf", "(II)I"⟩ prog_3_method_7_code 4 (some .int) ∈ gtb := gt_in (tb_4_1 (i := 0) rfl) (by decide +kernel)
theorem wd_737 : Cond.methodLink "StageMachine$Change" 138 ⟨"StageMachine$Stage", "thingNumbered", "(I)LStageMachine$Thing;"⟩ ∈ gtb := gt_in (tb_4_1 (i := 1) rfl) (by decide +kernel)
theorem wd_738 : Cond.methodLink "StageMachineLaw" 94 ⟨"StageMachine", "work", "(I)I"⟩ ∈ gtb := gt_in (tb_4_1 (i := 2) rfl) (by decide +kernel)
theorem wd_739 : Cond.instanceMethod ⟨"StageMachine", "work", "(I)I"⟩ ∈ gtb := gt_in (tb_4_1 (i := 3) rfl) (by decide +kernel)
theorem wd_740 : Cond.selects "StageMachine" ⟨"StageMachine", "work", "(I)I"⟩ ⟨"StageMachine", "work", "(I)I"⟩ ∈ gtb := gt_in (tb_4_1 (i := 4) rfl) (by decide +kernel)
theorem wd_741 : Cond.code ⟨"StageMachine", "work", "(I)I"⟩ prog_1_method_21_code 2 (some .int) ∈ gtb := gt_in (tb_4_1 (i := 5) rfl) (by decide +kernel)
theorem wd_742 : Cond.methodLink "StageMachine" 138 ⟨"StageMachine$Change", "workFor", "(I)I"⟩ ∈ gtb := gt_in (tb_4_1 (i := 6) rfl) (by decide +kernel)
theorem wd_743 : Cond.instanceMethod ⟨"StageMachine$Change", "workFor", "(I)I"⟩ ∈ gtb := gt_in (tb_4_1 (i := 7) rfl) (by decide +kernel)
theorem wd_744 : Cond.selects "StageMachine$Change" ⟨"StageMachine$Change", "workFor", "(I)I"⟩ ⟨"StageMachine$Change", "workFor", "(I)I"⟩ ∈ gtb := gt_in (tb_4_1 (i := 8) rfl) (by decide +kernel)
theorem wd_745 : Cond.code ⟨"StageMachine$Change", "workFor", "(I)I"⟩ prog_3_method_8_code 2 (some .int) ∈ gtb := gt_in (tb_4_1 (i := 9) rfl) (by decide +kernel)
theorem wd_746 : Cond.methodLink "StageMachine$Change" 142 ⟨"StageMachine$Change", "works", "()I"⟩ ∈ gtb := gt_in (tb_4_1 (i := 10) rfl) (by decide +kernel)
theorem wd_748 : Cond.instanceMethod ⟨"StageMachine$Change", "works", "()I"⟩ ∈ gtb := gt_in (tb_4_1 (i := 12) rfl) (by decide +kernel)
theorem wd_749 : Cond.code ⟨"StageMachine$Change", "works", "()I"⟩ prog_3_method_9_code 1 (some .int) ∈ gtb := gt_in (tb_4_1 (i := 13) rfl) (by decide +kernel)
theorem wd_750 : Cond.methodLink "StageMachineLaw" 98 ⟨"StageMachine", "men", "(I)I"⟩ ∈ gtb := gt_in (tb_4_1 (i := 14) rfl) (by decide +kernel)
theorem wd_751 : Cond.instanceMethod ⟨"StageMachine", "men", "(I)I"⟩ ∈ gtb := gt_in (tb_4_1 (i := 15) rfl) (by decide +kernel)
theorem wd_752 : Cond.selects "StageMachine" ⟨"StageMachine", "men", "(I)I"⟩ ⟨"StageMachine", "men", "(I)I"⟩ ∈ gtb := gt_in (tb_4_2 (i := 0) rfl) (by decide +kernel)
theorem wd_753 : Cond.code ⟨"StageMachine", "men", "(I)I"⟩ prog_1_method_22_code 2 (some .int) ∈ gtb := gt_in (tb_4_2 (i := 1) rfl) (by decide +kernel)
theorem wd_754 : Cond.methodLink "StageMachine" 141 ⟨"StageMachine$Change", "leastMen", "(I)I"⟩ ∈ gtb := gt_in (tb_4_2 (i := 2) rfl) (by decide +kernel)
theorem wd_755 : Cond.instanceMethod ⟨"StageMachine$Change", "leastMen", "(I)I"⟩ ∈ gtb := gt_in (tb_4_2 (i := 3) rfl) (by decide +kernel)
theorem wd_756 : Cond.selects "StageMachine$Change" ⟨"StageMachine$Change", "leastMen", "(I)I"⟩ ⟨"StageMachine$Change", "leastMen", "(I)I"⟩ ∈ gtb := gt_in (tb_4_2 (i := 4) rfl) (by decide +kernel)
theorem wd_757 : Cond.code ⟨"StageMachine$Change", "leastMen", "(I)I"⟩ prog_3_method_10_code 2 (some .int) ∈ gtb := gt_in (tb_4_2 (i := 5) rfl) (by decide +kernel)
theorem wd_758 : Cond.methodLink "StageMachine$Change" 145 ⟨"StageMachine$Change", "longestWork", "()I"⟩ ∈ gtb := gt_in (tb_4_2 (i := 6) rfl) (by decide +kernel)
theorem wd_760 : Cond.instanceMethod ⟨"StageMachine$Change", "longestWork", "()I"⟩ ∈ gtb := gt_in (tb_4_2 (i := 8) rfl) (by decide +kernel)
theorem wd_761 : Cond.code ⟨"StageMachine$Change", "longestWork", "()I"⟩ prog_3_method_11_code 1 (some .int) ∈ gtb := gt_in (tb_4_2 (i := 9) rfl) (by decide +kernel)
theorem wd_762 : Cond.methodLink "StageMachine$Change" 148 ⟨"StageMachine$Change", "shareOut", "(I)I"⟩ ∈ gtb := gt_in (tb_4_2 (i := 10) rfl) (by decide +kernel)
theorem wd_764 : Cond.instanceMethod ⟨"StageMachine$Change", "shareOut", "(I)I"⟩ ∈ gtb := gt_in (tb_4_2 (i := 12) rfl) (by decide +kernel)
theorem wd_765 : Cond.code ⟨"StageMachine$Change", "shareOut", "(I)I"⟩ prog_3_method_12_code 6 (some .int) ∈ gtb := gt_in (tb_4_2 (i := 13) rfl) (by decide +kernel)
theorem wd_766 : Cond.methodLink "StageMachine$Change" 155 ⟨"StageMachine$Change", "leastShare", "(IIII)I"⟩ ∈ gtb := gt_in (tb_4_2 (i := 14) rfl) (by decide +kernel)
theorem wd_768 : Cond.instanceMethod ⟨"StageMachine$Change", "leastShare", "(IIII)I"⟩ ∈ gtb := gt_in (tb_4_3 (i := 0) rfl) (by decide +kernel)
theorem wd_769 : Cond.code ⟨"StageMachine$Change", "leastShare", "(IIII)I"⟩ prog_3_method_13_code 6 (some .int) ∈ gtb := gt_in (tb_4_3 (i := 1) rfl) (by decide +kernel)
theorem wd_770 : Cond.methodLink "StageMachine$Change" 159 ⟨"StageMachine$Change", "slot", "(III)I"⟩ ∈ gtb := gt_in (tb_4_3 (i := 2) rfl) (by decide +kernel)
theorem wd_772 : Cond.instanceMethod ⟨"StageMachine$Change", "slot", "(III)I"⟩ ∈ gtb := gt_in (tb_4_3 (i := 4) rfl) (by decide +kernel)
theorem wd_773 : Cond.code ⟨"StageMachine$Change", "slot", "(III)I"⟩ prog_3_method_15_code 4 (some .int) ∈ gtb := gt_in (tb_4_3 (i := 5) rfl) (by decide +kernel)
theorem wd_774 : Cond.methodLink "StageMachine$Change" 163 ⟨"StageMachine$Change", "withWork", "(III)I"⟩ ∈ gtb := gt_in (tb_4_3 (i := 6) rfl) (by decide +kernel)
theorem wd_776 : Cond.instanceMethod ⟨"StageMachine$Change", "withWork", "(III)I"⟩ ∈ gtb := gt_in (tb_4_3 (i := 8) rfl) (by decide +kernel)
theorem wd_777 : Cond.code ⟨"StageMachine$Change", "withWork", "(III)I"⟩ prog_3_method_14_code 5 (some .int) ∈ gtb := gt_in (tb_4_3 (i := 9) rfl) (by decide +kernel)
theorem wd_778 : Cond.methodLink "StageMachine$Change" 166 ⟨"java/lang/Math", "min", "(II)I"⟩ ∈ gtb := gt_in (tb_4_3 (i := 10) rfl) (by decide +kernel)
theorem wd_780 : Cond.methodLink "StageMachineLaw" 102 ⟨"StageMachine", "feed", "(II)I"⟩ ∈ gtb := gt_in (tb_4_3 (i := 12) rfl) (by decide +kernel)
theorem wd_781 : Cond.instanceMethod ⟨"StageMachine", "feed", "(II)I"⟩ ∈ gtb := gt_in (tb_4_3 (i := 13) rfl) (by decide +kernel)
theorem wd_782 : Cond.selects "StageMachine" ⟨"StageMachine", "feed", "(II)I"⟩ ⟨"StageMachine", "feed", "(II)I"⟩ ∈ gtb := gt_in (tb_4_3 (i := 14) rfl) (by decide +kernel)
theorem wd_783 : Cond.code ⟨"StageMachine", "feed", "(II)I"⟩ prog_1_method_23_code 3 (some .int) ∈ gtb := gt_in (tb_4_3 (i := 15) rfl) (by decide +kernel)
theorem wd_784 : Cond.methodLink "StageMachine" 144 ⟨"StageMachine$Tape", "take", "(II)I"⟩ ∈ gtb := gt_in (tb_4_4 (i := 0) rfl) (by decide +kernel)
theorem wd_785 : Cond.instanceMethod ⟨"StageMachine$Tape", "take", "(II)I"⟩ ∈ gtb := gt_in (tb_4_4 (i := 1) rfl) (by decide +kernel)
theorem wd_786 : Cond.selects "StageMachine$Tape" ⟨"StageMachine$Tape", "take", "(II)I"⟩ ⟨"StageMachine$Tape", "take", "(II)I"⟩ ∈ gtb := gt_in (tb_4_4 (i := 2) rfl) (by decide +kernel)
theorem wd_787 : Cond.code ⟨"StageMachine$Tape", "take", "(II)I"⟩ prog_10_method_2_code 4 (some .int) ∈ gtb := gt_in (tb_4_4 (i := 3) rfl) (by decide +kernel)
theorem wd_789 : Cond.methodLink "StageMachineLaw" 106 ⟨"StageMachine", "play", "()I"⟩ ∈ gtb := gt_in (tb_4_4 (i := 5) rfl) (by decide +kernel)
theorem wd_790 : Cond.instanceMethod ⟨"StageMachine", "play", "()I"⟩ ∈ gtb := gt_in (tb_4_4 (i := 6) rfl) (by decide +kernel)
theorem wd_791 : Cond.selects "StageMachine" ⟨"StageMachine", "play", "()I"⟩ ⟨"StageMachine", "play", "()I"⟩ ∈ gtb := gt_in (tb_4_4 (i := 7) rfl) (by decide +kernel)
theorem wd_792 : Cond.code ⟨"StageMachine", "play", "()I"⟩ prog_1_method_24_code 4 (some .int) ∈ gtb := gt_in (tb_4_4 (i := 8) rfl) (by decide +kernel)
theorem wd_793 : Cond.methodLink "StageMachine" 147 ⟨"StageMachine$Tape", "readLines", "()I"⟩ ∈ gtb := gt_in (tb_4_4 (i := 9) rfl) (by decide +kernel)
theorem wd_794 : Cond.instanceMethod ⟨"StageMachine$Tape", "readLines", "()I"⟩ ∈ gtb := gt_in (tb_4_4 (i := 10) rfl) (by decide +kernel)
theorem wd_795 : Cond.selects "StageMachine$Tape" ⟨"StageMachine$Tape", "readLines", "()I"⟩ ⟨"StageMachine$Tape", "readLines", "()I"⟩ ∈ gtb := gt_in (tb_4_4 (i := 11) rfl) (by decide +kernel)
theorem wd_796 : Cond.code ⟨"StageMachine$Tape", "readLines", "()I"⟩ prog_10_method_3_code 1 (some .int) ∈ gtb := gt_in (tb_4_4 (i := 12) rfl) (by decide +kernel)
theorem wd_797 : Cond.methodLink "StageMachine$Tape" 38 ⟨"StageMachine$Tape", "readLine", "(I)Z"⟩ ∈ gtb := gt_in (tb_4_4 (i := 13) rfl) (by decide +kernel)
theorem wd_799 : Cond.instanceMethod ⟨"StageMachine$Tape", "readLine", "(I)Z"⟩ ∈ gtb := gt_in (tb_4_4 (i := 15) rfl) (by decide +kernel)
theorem wd_800 : Cond.code ⟨"StageMachine$Tape", "readLine", "(I)Z"⟩ prog_10_method_4_code 3 (some .boolean) ∈ gtb := gt_in (tb_4_5 (i := 0) rfl) (by decide +kernel)
theorem wd_801 : Cond.methodLink "StageMachine$Tape" 42 ⟨"StageMachine$Tape", "peek", "()I"⟩ ∈ gtb := gt_in (tb_4_5 (i := 1) rfl) (by decide +kernel)
theorem wd_803 : Cond.instanceMethod ⟨"StageMachine$Tape", "peek", "()I"⟩ ∈ gtb := gt_in (tb_4_5 (i := 3) rfl) (by decide +kernel)
theorem wd_804 : Cond.code ⟨"StageMachine$Tape", "peek", "()I"⟩ prog_10_method_9_code 1 (some .int) ∈ gtb := gt_in (tb_4_5 (i := 4) rfl) (by decide +kernel)
theorem wd_805 : Cond.methodLink "StageMachine$Tape" 46 ⟨"StageMachine$Tape", "readTwo", "(IZ)Z"⟩ ∈ gtb := gt_in (tb_4_5 (i := 5) rfl) (by decide +kernel)
theorem wd_807 : Cond.instanceMethod ⟨"StageMachine$Tape", "readTwo", "(IZ)Z"⟩ ∈ gtb := gt_in (tb_4_5 (i := 7) rfl) (by decide +kernel)
theorem wd_808 : Cond.code ⟨"StageMachine$Tape", "readTwo", "(IZ)Z"⟩ prog_10_method_6_code 3 (some .boolean) ∈ gtb := gt_in (tb_4_5 (i := 8) rfl) (by decide +kernel)
theorem wd_809 : Cond.methodLink "StageMachine$Tape" 53 ⟨"StageMachine$Tape", "readNumber", "(Z)Z"⟩ ∈ gtb := gt_in (tb_4_5 (i := 9) rfl) (by decide +kernel)
theorem wd_811 : Cond.instanceMethod ⟨"StageMachine$Tape", "readNumber", "(Z)Z"⟩ ∈ gtb := gt_in (tb_4_5 (i := 11) rfl) (by decide +kernel)
theorem wd_812 : Cond.code ⟨"StageMachine$Tape", "readNumber", "(Z)Z"⟩ prog_10_method_7_code 4 (some .boolean) ∈ gtb := gt_in (tb_4_5 (i := 12) rfl) (by decide +kernel)
theorem wd_813 : Cond.methodLink "StageMachine$Tape" 60 ⟨"StageMachine$Tape", "readSign", "(I)Z"⟩ ∈ gtb := gt_in (tb_4_5 (i := 13) rfl) (by decide +kernel)
theorem wd_815 : Cond.instanceMethod ⟨"StageMachine$Tape", "readSign", "(I)Z"⟩ ∈ gtb := gt_in (tb_4_5 (i := 15) rfl) (by decide +kernel)
theorem wd_816 : Cond.code ⟨"StageMachine$Tape", "readSign", "(I)Z"⟩ prog_10_method_8_code 2 (some .boolean) ∈ gtb := gt_in (tb_4_6 (i := 0) rfl) (by decide +kernel)
theorem wd_817 : Cond.methodLink "StageMachine$Tape" 50 ⟨"StageMachine$Tape", "readOne", "(IZ)Z"⟩ ∈ gtb := gt_in (tb_4_6 (i := 1) rfl) (by decide +kernel)
theorem wd_819 : Cond.instanceMethod ⟨"StageMachine$Tape", "readOne", "(IZ)Z"⟩ ∈ gtb := gt_in (tb_4_6 (i := 3) rfl) (by decide +kernel)
theorem wd_820 : Cond.code ⟨"StageMachine$Tape", "readOne", "(IZ)Z"⟩ prog_10_method_5_code 3 (some .boolean) ∈ gtb := gt_in (tb_4_6 (i := 4) rfl) (by decide +kernel)
theorem wd_821 : Cond.methodLink "StageMachine" 154 ⟨"StageMachine$Stage", "keep", "()V"⟩ ∈ gtb := gt_in (tb_4_6 (i := 5) rfl) (by decide +kernel)
theorem wd_822 : Cond.instanceMethod ⟨"StageMachine$Stage", "keep", "()V"⟩ ∈ gtb := gt_in (tb_4_6 (i := 6) rfl) (by decide +kernel)
theorem wd_823 : Cond.selects "StageMachine$Stage" ⟨"StageMachine$Stage", "keep", "()V"⟩ ⟨"StageMachine$Stage", "keep", "()V"⟩ ∈ gtb := gt_in (tb_4_6 (i := 7) rfl) (by decide +kernel)
theorem wd_824 : Cond.code ⟨"StageMachine$Stage", "keep", "()V"⟩ prog_7_method_25_code 3 none ∈ gtb := gt_in (tb_4_6 (i := 8) rfl) (by decide +kernel)
theorem wd_825 : Cond.methodLink "StageMachine$Stage" 204 ⟨"java/lang/System", "arraycopy", "(Ljava/lang/Object;ILjava/lang/Object;II)V"⟩ ∈ gtb := gt_in (tb_4_6 (i := 9) rfl) (by decide +kernel)
theorem wd_826 : Cond.static ⟨"java/lang/System", "arraycopy", "(Ljava/lang/Object;ILjava/lang/Object;II)V"⟩ ∈ gtb := gt_in (tb_4_6 (i := 10) rfl) (by decide +kernel)
theorem wd_827 : Cond.native ⟨"java/lang/System", "arraycopy", "(Ljava/lang/Object;ILjava/lang/Object;II)V"⟩ ∈ gtb := gt_in (tb_4_6 (i := 11) rfl) (by decide +kernel)
theorem wd_828 : Cond.methodLink "StageMachine" 164 ⟨"StageMachine", "playLine", "(I)I"⟩ ∈ gtb := gt_in (tb_4_6 (i := 12) rfl) (by decide +kernel)
theorem wd_830 : Cond.instanceMethod ⟨"StageMachine", "playLine", "(I)I"⟩ ∈ gtb := gt_in (tb_4_6 (i := 14) rfl) (by decide +kernel)
theorem wd_831 : Cond.code ⟨"StageMachine", "playLine", "(I)I"⟩ prog_1_method_36_code 4 (some .int) ∈ gtb := gt_in (tb_4_6 (i := 15) rfl) (by decide +kernel)
theorem wd_832 : Cond.methodLink "StageMachine" 229 ⟨"java/lang/Math", "abs", "(I)I"⟩ ∈ gtb := gt_in (tb_4_7 (i := 0) rfl) (by decide +kernel)
theorem wd_833 : Cond.methodLink "StageMachineLaw" 110 ⟨"StageMachine", "back", "()I"⟩ ∈ gtb := gt_in (tb_4_7 (i := 1) rfl) (by decide +kernel)
theorem wd_834 : Cond.instanceMethod ⟨"StageMachine", "back", "()I"⟩ ∈ gtb := gt_in (tb_4_7 (i := 2) rfl) (by decide +kernel)
theorem wd_835 : Cond.selects "StageMachine" ⟨"StageMachine", "back", "()I"⟩ ⟨"StageMachine", "back", "()I"⟩ ∈ gtb := gt_in (tb_4_7 (i := 3) rfl) (by decide +kernel)
theorem wd_836 : Cond.code ⟨"StageMachine", "back", "()I"⟩ prog_1_method_25_code 1 (some .int) ∈ gtb := gt_in (tb_4_7 (i := 4) rfl) (by decide +kernel)
theorem wd_837 : Cond.methodLink "StageMachine" 167 ⟨"StageMachine$Stage", "restore", "()V"⟩ ∈ gtb := gt_in (tb_4_7 (i := 5) rfl) (by decide +kernel)
theorem wd_838 : Cond.instanceMethod ⟨"StageMachine$Stage", "restore", "()V"⟩ ∈ gtb := gt_in (tb_4_7 (i := 6) rfl) (by decide +kernel)
theorem wd_839 : Cond.selects "StageMachine$Stage" ⟨"StageMachine$Stage", "restore", "()V"⟩ ⟨"StageMachine$Stage", "restore", "()V"⟩ ∈ gtb := gt_in (tb_4_7 (i := 7) rfl) (by decide +kernel)
theorem wd_840 : Cond.code ⟨"StageMachine$Stage", "restore", "()V"⟩ prog_7_method_26_code 3 none ∈ gtb := gt_in (tb_4_7 (i := 8) rfl) (by decide +kernel)
theorem wd_841 : Cond.methodLink "StageMachineLaw" 114 ⟨"StageMachine", "candle", "(I)I"⟩ ∈ gtb := gt_in (tb_4_7 (i := 9) rfl) (by decide +kernel)
theorem wd_842 : Cond.instanceMethod ⟨"StageMachine", "candle", "(I)I"⟩ ∈ gtb := gt_in (tb_4_7 (i := 10) rfl) (by decide +kernel)
theorem wd_843 : Cond.selects "StageMachine" ⟨"StageMachine", "candle", "(I)I"⟩ ⟨"StageMachine", "candle", "(I)I"⟩ ∈ gtb := gt_in (tb_4_7 (i := 11) rfl) (by decide +kernel)
theorem wd_844 : Cond.code ⟨"StageMachine", "candle", "(I)I"⟩ prog_1_method_26_code 2 (some .int) ∈ gtb := gt_in (tb_4_7 (i := 12) rfl) (by decide +kernel)
theorem wd_845 : Cond.methodLink "StageMachine" 170 ⟨"StageMachine$Candles", "add", "(I)I"⟩ ∈ gtb := gt_in (tb_4_7 (i := 13) rfl) (by decide +kernel)
theorem wd_846 : Cond.instanceMethod ⟨"StageMachine$Candles", "add", "(I)I"⟩ ∈ gtb := gt_in (tb_4_7 (i := 14) rfl) (by decide +kernel)
theorem wd_847 : Cond.selects "StageMachine$Candles" ⟨"StageMachine$Candles", "add", "(I)I"⟩ ⟨"StageMachine$Candles", "add", "(I)I"⟩ ∈ gtb := gt_in (tb_4_7 (i := 15) rfl) (by decide +kernel)
theorem wd_848 : Cond.code ⟨"StageMachine$Candles", "add", "(I)I"⟩ prog_2_method_2_code 2 (some .int) ∈ gtb := gt_in (tb_4_8 (i := 0) rfl) (by decide +kernel)
theorem wd_850 : Cond.methodLink "StageMachineLaw" 118 ⟨"StageMachine", "minutes", "(I)I"⟩ ∈ gtb := gt_in (tb_4_8 (i := 2) rfl) (by decide +kernel)
theorem wd_851 : Cond.instanceMethod ⟨"StageMachine", "minutes", "(I)I"⟩ ∈ gtb := gt_in (tb_4_8 (i := 3) rfl) (by decide +kernel)
theorem wd_852 : Cond.selects "StageMachine" ⟨"StageMachine", "minutes", "(I)I"⟩ ⟨"StageMachine", "minutes", "(I)I"⟩ ∈ gtb := gt_in (tb_4_8 (i := 4) rfl) (by decide +kernel)
theorem wd_853 : Cond.code ⟨"StageMachine", "minutes", "(I)I"⟩ prog_1_method_27_code 2 (some .int) ∈ gtb := gt_in (tb_4_8 (i := 5) rfl) (by decide +kernel)
theorem wd_854 : Cond.methodLink "StageMachine" 173 ⟨"StageMachine$Candles", "pass", "(I)I"⟩ ∈ gtb := gt_in (tb_4_8 (i := 6) rfl) (by decide +kernel)
theorem wd_855 : Cond.instanceMethod ⟨"StageMachine$Candles", "pass", "(I)I"⟩ ∈ gtb := gt_in (tb_4_8 (i := 7) rfl) (by decide +kernel)
theorem wd_856 : Cond.selects "StageMachine$Candles" ⟨"StageMachine$Candles", "pass", "(I)I"⟩ ⟨"StageMachine$Candles", "pass", "(I)I"⟩ ∈ gtb := gt_in (tb_4_8 (i := 8) rfl) (by decide +kernel)
theorem wd_857 : Cond.code ⟨"StageMachine$Candles", "pass", "(I)I"⟩ prog_2_method_3_code 2 (some .int) ∈ gtb := gt_in (tb_4_8 (i := 9) rfl) (by decide +kernel)
theorem wd_858 : Cond.methodLink "StageMachineLaw" 122 ⟨"StageMachine", "trim", "(I)I"⟩ ∈ gtb := gt_in (tb_4_8 (i := 10) rfl) (by decide +kernel)
theorem wd_859 : Cond.instanceMethod ⟨"StageMachine", "trim", "(I)I"⟩ ∈ gtb := gt_in (tb_4_8 (i := 11) rfl) (by decide +kernel)
theorem wd_860 : Cond.selects "StageMachine" ⟨"StageMachine", "trim", "(I)I"⟩ ⟨"StageMachine", "trim", "(I)I"⟩ ∈ gtb := gt_in (tb_4_8 (i := 12) rfl) (by decide +kernel)
theorem wd_861 : Cond.code ⟨"StageMachine", "trim", "(I)I"⟩ prog_1_method_28_code 2 (some .int) ∈ gtb := gt_in (tb_4_8 (i := 13) rfl) (by decide +kernel)
theorem wd_862 : Cond.methodLink "StageMachine" 176 ⟨"StageMachine$Candles", "renew", "(I)I"⟩ ∈ gtb := gt_in (tb_4_8 (i := 14) rfl) (by decide +kernel)
theorem wd_863 : Cond.instanceMethod ⟨"StageMachine$Candles", "renew", "(I)I"⟩ ∈ gtb := gt_in (tb_4_8 (i := 15) rfl) (by decide +kernel)
theorem wd_864 : Cond.selects "StageMachine$Candles" ⟨"StageMachine$Candles", "renew", "(I)I"⟩ ⟨"StageMachine$Candles", "renew", "(I)I"⟩ ∈ gtb := gt_in (tb_4_9 (i := 0) rfl) (by decide +kernel)
theorem wd_865 : Cond.code ⟨"StageMachine$Candles", "renew", "(I)I"⟩ prog_2_method_4_code 4 (some .int) ∈ gtb := gt_in (tb_4_9 (i := 1) rfl) (by decide +kernel)
theorem wd_866 : Cond.methodLink "StageMachineLaw" 126 ⟨"StageMachine", "light", "(I)I"⟩ ∈ gtb := gt_in (tb_4_9 (i := 2) rfl) (by decide +kernel)
theorem wd_867 : Cond.instanceMethod ⟨"StageMachine", "light", "(I)I"⟩ ∈ gtb := gt_in (tb_4_9 (i := 3) rfl) (by decide +kernel)
theorem wd_868 : Cond.selects "StageMachine" ⟨"StageMachine", "light", "(I)I"⟩ ⟨"StageMachine", "light", "(I)I"⟩ ∈ gtb := gt_in (tb_4_9 (i := 4) rfl) (by decide +kernel)
theorem wd_869 : Cond.code ⟨"StageMachine", "light", "(I)I"⟩ prog_1_method_29_code 2 (some .int) ∈ gtb := gt_in (tb_4_9 (i := 5) rfl) (by decide +kernel)
theorem wd_870 : Cond.methodLink "StageMachine" 179 ⟨"StageMachine$Candles", "tell", "(I)I"⟩ ∈ gtb := gt_in (tb_4_9 (i := 6) rfl) (by decide +kernel)
theorem wd_871 : Cond.instanceMethod ⟨"StageMachine$Candles", "tell", "(I)I"⟩ ∈ gtb := gt_in (tb_4_9 (i := 7) rfl) (by decide +kernel)
theorem wd_872 : Cond.selects "StageMachine$Candles" ⟨"StageMachine$Candles", "tell", "(I)I"⟩ ⟨"StageMachine$Candles", "tell", "(I)I"⟩ ∈ gtb := gt_in (tb_4_9 (i := 8) rfl) (by decide +kernel)
theorem wd_873 : Cond.code ⟨"StageMachine$Candles", "tell", "(I)I"⟩ prog_2_method_5_code 2 (some .int) ∈ gtb := gt_in (tb_4_9 (i := 9) rfl) (by decide +kernel)
theorem wd_874 : Cond.methodLink "StageMachine$Candles" 29 ⟨"StageMachine$Candles", "burning", "()I"⟩ ∈ gtb := gt_in (tb_4_9 (i := 10) rfl) (by decide +kernel)
theorem wd_876 : Cond.instanceMethod ⟨"StageMachine$Candles", "burning", "()I"⟩ ∈ gtb := gt_in (tb_4_9 (i := 12) rfl) (by decide +kernel)
theorem wd_877 : Cond.code ⟨"StageMachine$Candles", "burning", "()I"⟩ prog_2_method_6_code 3 (some .int) ∈ gtb := gt_in (tb_4_9 (i := 13) rfl) (by decide +kernel)
theorem wd_878 : Cond.methodLink "StageMachine$Candles" 33 ⟨"StageMachine$Candles", "leastLeft", "()I"⟩ ∈ gtb := gt_in (tb_4_9 (i := 14) rfl) (by decide +kernel)
theorem wd_880 : Cond.instanceMethod ⟨"StageMachine$Candles", "leastLeft", "()I"⟩ ∈ gtb := gt_in (tb_4_10 (i := 0) rfl) (by decide +kernel)
theorem wd_881 : Cond.code ⟨"StageMachine$Candles", "leastLeft", "()I"⟩ prog_2_method_7_code 4 (some .int) ∈ gtb := gt_in (tb_4_10 (i := 1) rfl) (by decide +kernel)
theorem wd_882 : Cond.methodLink "StageMachineLaw" 130 ⟨"StageMachine", "flat", "(II)I"⟩ ∈ gtb := gt_in (tb_4_10 (i := 2) rfl) (by decide +kernel)
theorem wd_883 : Cond.instanceMethod ⟨"StageMachine", "flat", "(II)I"⟩ ∈ gtb := gt_in (tb_4_10 (i := 3) rfl) (by decide +kernel)
theorem wd_884 : Cond.selects "StageMachine" ⟨"StageMachine", "flat", "(II)I"⟩ ⟨"StageMachine", "flat", "(II)I"⟩ ∈ gtb := gt_in (tb_4_10 (i := 4) rfl) (by decide +kernel)
theorem wd_885 : Cond.code ⟨"StageMachine", "flat", "(II)I"⟩ prog_1_method_30_code 3 (some .int) ∈ gtb := gt_in (tb_4_10 (i := 5) rfl) (by decide +kernel)
theorem wd_886 : Cond.methodLink "StageMachine" 180 ⟨"StageMachine$Stock", "addFlat", "(II)I"⟩ ∈ gtb := gt_in (tb_4_10 (i := 6) rfl) (by decide +kernel)
theorem wd_887 : Cond.instanceMethod ⟨"StageMachine$Stock", "addFlat", "(II)I"⟩ ∈ gtb := gt_in (tb_4_10 (i := 7) rfl) (by decide +kernel)
theorem wd_888 : Cond.selects "StageMachine$Stock" ⟨"StageMachine$Stock", "addFlat", "(II)I"⟩ ⟨"StageMachine$Stock", "addFlat", "(II)I"⟩ ∈ gtb := gt_in (tb_4_10 (i := 8) rfl) (by decide +kernel)
theorem wd_889 : Cond.code ⟨"StageMachine$Stock", "addFlat", "(II)I"⟩ prog_8_method_2_code 3 (some .int) ∈ gtb := gt_in (tb_4_10 (i := 9) rfl) (by decide +kernel)
theorem wd_890 : Cond.methodLink "StageMachine$Stock" 27 ⟨"StageMachine$Stock", "isPanel", "(II)Z"⟩ ∈ gtb := gt_in (tb_4_10 (i := 10) rfl) (by decide +kernel)
theorem wd_891 : Cond.static ⟨"StageMachine$Stock", "isPanel", "(II)Z"⟩ ∈ gtb := gt_in (tb_4_10 (i := 11) rfl) (by decide +kernel)
theorem wd_892 : Cond.code ⟨"StageMachine$Stock", "isPanel", "(II)Z"⟩ prog_8_method_4_code 2 (some .boolean) ∈ gtb := gt_in (tb_4_10 (i := 12) rfl) (by decide +kernel)
theorem wd_894 : Cond.instantiable "StageMachine$Panel" 3 ∈ gtb := gt_in (tb_4_10 (i := 14) rfl) (by decide +kernel)
theorem wd_895 : Cond.methodLink "StageMachine$Stock" 35 ⟨"StageMachine$Panel", "<init>", "(II)V"⟩ ∈ gtb := gt_in (tb_4_10 (i := 15) rfl) (by decide +kernel)
theorem wd_896 : Cond.instanceMethod ⟨"StageMachine$Panel", "<init>", "(II)V"⟩ ∈ gtb := gt_in (tb_4_11 (i := 0) rfl) (by decide +kernel)
theorem wd_897 : Cond.code ⟨"StageMachine$Panel", "<init>", "(II)V"⟩ prog_5_method_1_code 3 none ∈ gtb := gt_in (tb_4_11 (i := 1) rfl) (by decide +kernel)
theorem wd_898 : Cond.methodLink "StageMachine$Panel" 1 ⟨"java/lang/Object", "<init>", "()V"⟩ ∈ gtb := gt_in (tb_4_11 (i := 2) rfl) (by decide +kernel)
theorem wd_899 : Cond.fieldLink "StageMachine$Panel" 7 "StageMachine$Panel" "height" "I" ∈ gtb := gt_in (tb_4_11 (i := 3) rfl) (by decide +kernel)
theorem wd_900 : Cond.fieldLink "StageMachine$Panel" 13 "StageMachine$Panel" "width" "I" ∈ gtb := gt_in (tb_4_11 (i := 4) rfl) (by decide +kernel)
theorem wd_901 : Cond.fieldLink "StageMachine$Panel" 16 "StageMachine$Panel" "paint" "I" ∈ gtb := gt_in (tb_4_11 (i := 5) rfl) (by decide +kernel)
theorem wd_909 : Cond.methodLink "StageMachineLaw" 134 ⟨"StageMachine", "want", "(II)I"⟩ ∈ gtb := gt_in (tb_4_11 (i := 13) rfl) (by decide +kernel)
theorem wd_910 : Cond.instanceMethod ⟨"StageMachine", "want", "(II)I"⟩ ∈ gtb := gt_in (tb_4_11 (i := 14) rfl) (by decide +kernel)
theorem wd_911 : Cond.selects "StageMachine" ⟨"StageMachine", "want", "(II)I"⟩ ⟨"StageMachine", "want", "(II)I"⟩ ∈ gtb := gt_in (tb_4_11 (i := 15) rfl) (by decide +kernel)
theorem wd_912 : Cond.code ⟨"StageMachine", "want", "(II)I"⟩ prog_1_method_31_code 3 (some .int) ∈ gtb := gt_in (tb_4_12 (i := 0) rfl) (by decide +kernel)
theorem wd_913 : Cond.methodLink "StageMachine" 183 ⟨"StageMachine$Stock", "addWant", "(II)I"⟩ ∈ gtb := gt_in (tb_4_12 (i := 1) rfl) (by decide +kernel)
theorem wd_914 : Cond.instanceMethod ⟨"StageMachine$Stock", "addWant", "(II)I"⟩ ∈ gtb := gt_in (tb_4_12 (i := 2) rfl) (by decide +kernel)
theorem wd_915 : Cond.selects "StageMachine$Stock" ⟨"StageMachine$Stock", "addWant", "(II)I"⟩ ⟨"StageMachine$Stock", "addWant", "(II)I"⟩ ∈ gtb := gt_in (tb_4_12 (i := 3) rfl) (by decide +kernel)
theorem wd_916 : Cond.code ⟨"StageMachine$Stock", "addWant", "(II)I"⟩ prog_8_method_3_code 3 (some .int) ∈ gtb := gt_in (tb_4_12 (i := 4) rfl) (by decide +kernel)
theorem wd_917 : Cond.methodLink "StageMachineLaw" 138 ⟨"StageMachine", "paint", "()I"⟩ ∈ gtb := gt_in (tb_4_12 (i := 5) rfl) (by decide +kernel)
theorem wd_918 : Cond.instanceMethod ⟨"StageMachine", "paint", "()I"⟩ ∈ gtb := gt_in (tb_4_12 (i := 6) rfl) (by decide +kernel)
theorem wd_919 : Cond.selects "StageMachine" ⟨"StageMachine", "paint", "()I"⟩ ⟨"StageMachine", "paint", "()I"⟩ ∈ gtb := gt_in (tb_4_12 (i := 7) rfl) (by decide +kernel)
theorem wd_920 : Cond.code ⟨"StageMachine", "paint", "()I"⟩ prog_1_method_32_code 1 (some .int) ∈ gtb := gt_in (tb_4_12 (i := 8) rfl) (by decide +kernel)
theorem wd_921 : Cond.methodLink "StageMachine" 186 ⟨"StageMachine$Stock", "leastPainting", "()I"⟩ ∈ gtb := gt_in (tb_4_12 (i := 9) rfl) (by decide +kernel)
theorem wd_922 : Cond.instanceMethod ⟨"StageMachine$Stock", "leastPainting", "()I"⟩ ∈ gtb := gt_in (tb_4_12 (i := 10) rfl) (by decide +kernel)
theorem wd_923 : Cond.selects "StageMachine$Stock" ⟨"StageMachine$Stock", "leastPainting", "()I"⟩ ⟨"StageMachine$Stock", "leastPainting", "()I"⟩ ∈ gtb := gt_in (tb_4_12 (i := 11) rfl) (by decide +kernel)
theorem wd_924 : Cond.code ⟨"StageMachine$Stock", "leastPainting", "()I"⟩ prog_8_method_5_code 2 (some .int) ∈ gtb := gt_in (tb_4_12 (i := 12) rfl) (by decide +kernel)
theorem wd_925 : Cond.constant "StageMachine$Stock" 45 (1000000) ∈ gtb := gt_in (tb_4_12 (i := 13) rfl) (by decide +kernel)
theorem wd_926 : Cond.methodLink "StageMachine$Stock" 46 ⟨"StageMachine$Stock", "leastSum", "()I"⟩ ∈ gtb := gt_in (tb_4_12 (i := 14) rfl) (by decide +kernel)
theorem wd_928 : Cond.instanceMethod ⟨"StageMachine$Stock", "leastSum", "()I"⟩ ∈ gtb := gt_in (tb_4_13 (i := 0) rfl) (by decide +kernel)
theorem wd_929 : Cond.code ⟨"StageMachine$Stock", "leastSum", "()I"⟩ prog_8_method_6_code 3 (some .int) ∈ gtb := gt_in (tb_4_13 (i := 1) rfl) (by decide +kernel)
theorem wd_930 : Cond.methodLink "StageMachine$Stock" 53 ⟨"java/lang/Integer", "bitCount", "(I)I"⟩ ∈ gtb := gt_in (tb_4_13 (i := 2) rfl) (by decide +kernel)
theorem wd_931 : Cond.static ⟨"java/lang/Integer", "bitCount", "(I)I"⟩ ∈ gtb := gt_in (tb_4_13 (i := 3) rfl) (by decide +kernel)
theorem wd_932 : Cond.code ⟨"java/lang/Integer", "bitCount", "(I)I"⟩ prog_15_method_49_code 1 (some .int) ∈ gtb := gt_in (tb_4_13 (i := 4) rfl) (by decide +kernel)
theorem wd_933 : Cond.constant "java/lang/Integer" 265 (1431655765) ∈ gtb := gt_in (tb_4_13 (i := 5) rfl) (by decide +kernel)
theorem wd_934 : Cond.constant "java/lang/Integer" 266 (858993459) ∈ gtb := gt_in (tb_4_13 (i := 6) rfl) (by decide +kernel)
theorem wd_935 : Cond.constant "java/lang/Integer" 267 (252645135) ∈ gtb := gt_in (tb_4_13 (i := 7) rfl) (by decide +kernel)
theorem wd_936 : Cond.methodLink "StageMachine$Stock" 59 ⟨"StageMachine$Stock", "leastSumBehind", "(ILStageMachine$Panel;)I"⟩ ∈ gtb := gt_in (tb_4_13 (i := 8) rfl) (by decide +kernel)
theorem wd_938 : Cond.instanceMethod ⟨"StageMachine$Stock", "leastSumBehind", "(ILStageMachine$Panel;)I"⟩ ∈ gtb := gt_in (tb_4_13 (i := 10) rfl) (by decide +kernel)
theorem wd_939 : Cond.code ⟨"StageMachine$Stock", "leastSumBehind", "(ILStageMachine$Panel;)I"⟩ prog_8_method_7_code 5 (some .int) ∈ gtb := gt_in (tb_4_13 (i := 11) rfl) (by decide +kernel)
theorem wd_940 : Cond.methodLink "StageMachine$Stock" 63 ⟨"StageMachine$Stock", "sumWith", "(IILStageMachine$Panel;)I"⟩ ∈ gtb := gt_in (tb_4_13 (i := 12) rfl) (by decide +kernel)
theorem wd_942 : Cond.instanceMethod ⟨"StageMachine$Stock", "sumWith", "(IILStageMachine$Panel;)I"⟩ ∈ gtb := gt_in (tb_4_13 (i := 14) rfl) (by decide +kernel)
theorem wd_943 : Cond.code ⟨"StageMachine$Stock", "sumWith", "(IILStageMachine$Panel;)I"⟩ prog_8_method_8_code 5 (some .int) ∈ gtb := gt_in (tb_4_13 (i := 15) rfl) (by decide +kernel)
theorem wd_944 : Cond.methodLink "StageMachine$Stock" 73 ⟨"StageMachine$Panel", "serves", "(LStageMachine$Panel;)Z"⟩ ∈ gtb := gt_in (tb_4_14 (i := 0) rfl) (by decide +kernel)
theorem wd_945 : Cond.instanceMethod ⟨"StageMachine$Panel", "serves", "(LStageMachine$Panel;)Z"⟩ ∈ gtb := gt_in (tb_4_14 (i := 1) rfl) (by decide +kernel)
theorem wd_946 : Cond.selects "StageMachine$Panel" ⟨"StageMachine$Panel", "serves", "(LStageMachine$Panel;)Z"⟩ ⟨"StageMachine$Panel", "serves", "(LStageMachine$Panel;)Z"⟩ ∈ gtb := gt_in (tb_4_14 (i := 2) rfl) (by decide +kernel)
theorem wd_947 : Cond.code ⟨"StageMachine$Panel", "serves", "(LStageMachine$Panel;)Z"⟩ prog_5_method_3_code 2 (some .boolean) ∈ gtb := gt_in (tb_4_14 (i := 3) rfl) (by decide +kernel)
theorem wd_948 : Cond.methodLink "StageMachine$Stock" 77 ⟨"StageMachine$Panel", "priceFor", "(LStageMachine$Panel;)I"⟩ ∈ gtb := gt_in (tb_4_14 (i := 4) rfl) (by decide +kernel)
theorem wd_949 : Cond.instanceMethod ⟨"StageMachine$Panel", "priceFor", "(LStageMachine$Panel;)I"⟩ ∈ gtb := gt_in (tb_4_14 (i := 5) rfl) (by decide +kernel)
theorem wd_950 : Cond.selects "StageMachine$Panel" ⟨"StageMachine$Panel", "priceFor", "(LStageMachine$Panel;)I"⟩ ⟨"StageMachine$Panel", "priceFor", "(LStageMachine$Panel;)I"⟩ ∈ gtb := gt_in (tb_4_14 (i := 6) rfl) (by decide +kernel)
theorem wd_951 : Cond.code ⟨"StageMachine$Panel", "priceFor", "(LStageMachine$Panel;)I"⟩ prog_5_method_4_code 3 (some .int) ∈ gtb := gt_in (tb_4_14 (i := 7) rfl) (by decide +kernel)
theorem wd_952 : Cond.methodLink "StageMachine$Panel" 19 ⟨"StageMachine$Panel", "area", "()I"⟩ ∈ gtb := gt_in (tb_4_14 (i := 8) rfl) (by decide +kernel)
theorem wd_953 : Cond.instanceMethod ⟨"StageMachine$Panel", "area", "()I"⟩ ∈ gtb := gt_in (tb_4_14 (i := 9) rfl) (by decide +kernel)
theorem wd_954 : Cond.selects "StageMachine$Panel" ⟨"StageMachine$Panel", "area", "()I"⟩ ⟨"StageMachine$Panel", "area", "()I"⟩ ∈ gtb := gt_in (tb_4_14 (i := 10) rfl) (by decide +kernel)
theorem wd_955 : Cond.code ⟨"StageMachine$Panel", "area", "()I"⟩ prog_5_method_2_code 1 (some .int) ∈ gtb := gt_in (tb_4_14 (i := 11) rfl) (by decide +kernel)
theorem wd_956 : Cond.methodLink "StageMachine$Stock" 67 ⟨"java/lang/Math", "min", "(II)I"⟩ ∈ gtb := gt_in (tb_4_14 (i := 12) rfl) (by decide +kernel)
theorem wd_957 : Cond.methodLink "StageMachine$Stock" 50 ⟨"StageMachine$Stock", "give", "()V"⟩ ∈ gtb := gt_in (tb_4_14 (i := 13) rfl) (by decide +kernel)
theorem wd_959 : Cond.instanceMethod ⟨"StageMachine$Stock", "give", "()V"⟩ ∈ gtb := gt_in (tb_4_14 (i := 15) rfl) (by decide +kernel)
theorem wd_960 : Cond.code ⟨"StageMachine$Stock", "give", "()V"⟩ prog_8_method_9_code 4 none ∈ gtb := gt_in (tb_5_0 (i := 0) rfl) (by decide +kernel)
theorem wd_961 : Cond.methodLink "StageMachineLaw" 142 ⟨"StageMachine", "given", "(I)I"⟩ ∈ gtb := gt_in (tb_5_0 (i := 1) rfl) (by decide +kernel)
theorem wd_962 : Cond.instanceMethod ⟨"StageMachine", "given", "(I)I"⟩ ∈ gtb := gt_in (tb_5_0 (i := 2) rfl) (by decide +kernel)
theorem wd_963 : Cond.selects "StageMachine" ⟨"StageMachine", "given", "(I)I"⟩ ⟨"StageMachine", "given", "(I)I"⟩ ∈ gtb := gt_in (tb_5_0 (i := 3) rfl) (by decide +kernel)
theorem wd_964 : Cond.code ⟨"StageMachine", "given", "(I)I"⟩ prog_1_method_33_code 2 (some .int) ∈ gtb := gt_in (tb_5_0 (i := 4) rfl) (by decide +kernel)
theorem wd_965 : Cond.methodLink "StageMachine" 189 ⟨"StageMachine$Stock", "givenTo", "(I)I"⟩ ∈ gtb := gt_in (tb_5_0 (i := 5) rfl) (by decide +kernel)
theorem wd_966 : Cond.instanceMethod ⟨"StageMachine$Stock", "givenTo", "(I)I"⟩ ∈ gtb := gt_in (tb_5_0 (i := 6) rfl) (by decide +kernel)
theorem wd_967 : Cond.selects "StageMachine$Stock" ⟨"StageMachine$Stock", "givenTo", "(I)I"⟩ ⟨"StageMachine$Stock", "givenTo", "(I)I"⟩ ∈ gtb := gt_in (tb_5_0 (i := 7) rfl) (by decide +kernel)
theorem wd_968 : Cond.code ⟨"StageMachine$Stock", "givenTo", "(I)I"⟩ prog_8_method_10_code 2 (some .int) ∈ gtb := gt_in (tb_5_0 (i := 8) rfl) (by decide +kernel)
theorem wd_969 : Cond.methodLink "StageMachineLaw" 146 ⟨"StageMachine", "count", "(I)I"⟩ ∈ gtb := gt_in (tb_5_0 (i := 9) rfl) (by decide +kernel)
theorem wd_970 : Cond.instanceMethod ⟨"StageMachine", "count", "(I)I"⟩ ∈ gtb := gt_in (tb_5_0 (i := 10) rfl) (by decide +kernel)
theorem wd_971 : Cond.selects "StageMachine" ⟨"StageMachine", "count", "(I)I"⟩ ⟨"StageMachine", "count", "(I)I"⟩ ∈ gtb := gt_in (tb_5_0 (i := 11) rfl) (by decide +kernel)
theorem wd_972 : Cond.code ⟨"StageMachine", "count", "(I)I"⟩ prog_1_method_34_code 2 (some .int) ∈ gtb := gt_in (tb_5_0 (i := 12) rfl) (by decide +kernel)
theorem wd_973 : Cond.methodLink "StageMachine" 201 ⟨"StageMachine$Stage", "tiedCount", "()I"⟩ ∈ gtb := gt_in (tb_5_0 (i := 13) rfl) (by decide +kernel)
theorem wd_974 : Cond.instanceMethod ⟨"StageMachine$Stage", "tiedCount", "()I"⟩ ∈ gtb := gt_in (tb_5_0 (i := 14) rfl) (by decide +kernel)
theorem wd_975 : Cond.selects "StageMachine$Stage" ⟨"StageMachine$Stage", "tiedCount", "()I"⟩ ⟨"StageMachine$Stage", "tiedCount", "()I"⟩ ∈ gtb := gt_in (tb_5_0 (i := 15) rfl) (by decide +kernel)
theorem wd_976 : Cond.code ⟨"StageMachine$Stage", "tiedCount", "()I"⟩ prog_7_method_12_code 3 (some .int) ∈ gtb := gt_in (tb_5_1 (i := 0) rfl) (by decide +kernel)
theorem wd_977 : Cond.classLink "StageMachineLaw" 10 "StageMachineModel" ∈ gtb := gt_in (tb_5_1 (i := 1) rfl) (by decide +kernel)
theorem wd_978 : Cond.instantiable "StageMachineModel" 65 ∈ gtb := gt_in (tb_5_1 (i := 2) rfl) (by decide +kernel)
theorem wd_979 : Cond.methodLink "StageMachineLaw" 12 ⟨"StageMachineModel", "<init>", "()V"⟩ ∈ gtb := gt_in (tb_5_1 (i := 3) rfl) (by decide +kernel)
theorem wd_980 : Cond.instanceMethod ⟨"StageMachineModel", "<init>", "()V"⟩ ∈ gtb := gt_in (tb_5_1 (i := 4) rfl) (by decide +kernel)
theorem wd_981 : Cond.code ⟨"StageMachineModel", "<init>", "()V"⟩ prog_14_method_1_code 1 none ∈ gtb := gt_in (tb_5_1 (i := 5) rfl) (by decide +kernel)
theorem wd_982 : Cond.methodLink "StageMachineModel" 1 ⟨"java/lang/Object", "<init>", "()V"⟩ ∈ gtb := gt_in (tb_5_1 (i := 6) rfl) (by decide +kernel)
theorem wd_983 : Cond.constant "StageMachineModel" 59 (99999) ∈ gtb := gt_in (tb_5_1 (i := 7) rfl) (by decide +kernel)
theorem wd_984 : Cond.fieldLink "StageMachineModel" 146 "StageMachineModel" "things" "I" ∈ gtb := gt_in (tb_5_1 (i := 8) rfl) (by decide +kernel)
theorem wd_985 : Cond.fieldLink "StageMachineModel" 7 "StageMachineModel" "lane" "[I" ∈ gtb := gt_in (tb_5_1 (i := 9) rfl) (by decide +kernel)
theorem wd_986 : Cond.fieldLink "StageMachineModel" 13 "StageMachineModel" "width" "[I" ∈ gtb := gt_in (tb_5_1 (i := 10) rfl) (by decide +kernel)
theorem wd_987 : Cond.fieldLink "StageMachineModel" 16 "StageMachineModel" "weightOf" "[I" ∈ gtb := gt_in (tb_5_1 (i := 11) rfl) (by decide +kernel)
theorem wd_988 : Cond.fieldLink "StageMachineModel" 19 "StageMachineModel" "at" "[I" ∈ gtb := gt_in (tb_5_1 (i := 12) rfl) (by decide +kernel)
theorem wd_989 : Cond.fieldLink "StageMachineModel" 22 "StageMachineModel" "least" "[I" ∈ gtb := gt_in (tb_5_1 (i := 13) rfl) (by decide +kernel)
theorem wd_990 : Cond.fieldLink "StageMachineModel" 25 "StageMachineModel" "most" "[I" ∈ gtb := gt_in (tb_5_1 (i := 14) rfl) (by decide +kernel)
theorem wd_991 : Cond.fieldLink "StageMachineModel" 28 "StageMachineModel" "atThen" "[I" ∈ gtb := gt_in (tb_5_1 (i := 15) rfl) (by decide +kernel)
theorem wd_992 : Cond.fieldLink "StageMachineModel" 156 "StageMachineModel" "drums" "I" ∈ gtb := gt_in (tb_5_2 (i := 0) rfl) (by decide +kernel)
theorem wd_993 : Cond.fieldLink "StageMachineModel" 31 "StageMachineModel" "size" "[I" ∈ gtb := gt_in (tb_5_2 (i := 1) rfl) (by decide +kernel)
theorem wd_994 : Cond.fieldLink "StageMachineModel" 153 "StageMachineModel" "ropes" "I" ∈ gtb := gt_in (tb_5_2 (i := 2) rfl) (by decide +kernel)
theorem wd_995 : Cond.fieldLink "StageMachineModel" 34 "StageMachineModel" "ropeThing" "[I" ∈ gtb := gt_in (tb_5_2 (i := 3) rfl) (by decide +kernel)
theorem wd_996 : Cond.fieldLink "StageMachineModel" 37 "StageMachineModel" "gear" "[I" ∈ gtb := gt_in (tb_5_2 (i := 4) rfl) (by decide +kernel)
theorem wd_997 : Cond.fieldLink "StageMachineModel" 40 "StageMachineModel" "way" "[I" ∈ gtb := gt_in (tb_5_2 (i := 5) rfl) (by decide +kernel)
theorem wd_998 : Cond.fieldLink "StageMachineModel" 43 "StageMachineModel" "holds" "[I" ∈ gtb := gt_in (tb_5_2 (i := 6) rfl) (by decide +kernel)
theorem wd_999 : Cond.fieldLink "StageMachineModel" 46 "StageMachineModel" "drumOf" "[I" ∈ gtb := gt_in (tb_5_2 (i := 7) rfl) (by decide +kernel)
theorem wd_1000 : Cond.fieldLink "StageMachineModel" 49 "StageMachineModel" "done" "[I" ∈ gtb := gt_in (tb_5_2 (i := 8) rfl) (by decide +kernel)
theorem wd_1001 : Cond.fieldLink "StageMachineModel" 52 "StageMachineModel" "isGone" "[Z" ∈ gtb := gt_in (tb_5_2 (i := 9) rfl) (by decide +kernel)
theorem wd_1002 : Cond.fieldLink "StageMachineModel" 56 "StageMachineModel" "counter" "[I" ∈ gtb := gt_in (tb_5_2 (i := 10) rfl) (by decide +kernel)
theorem wd_1003 : Cond.fieldLink "StageMachineModel" 60 "StageMachineModel" "bound" "I" ∈ gtb := gt_in (tb_5_2 (i := 11) rfl) (by decide +kernel)
theorem wd_1004 : Cond.fieldLink "StageMachineModel" 211 "StageMachineModel" "shaft" "I" ∈ gtb := gt_in (tb_5_2 (i := 12) rfl) (by decide +kernel)
theorem wd_1005 : Cond.fieldLink "StageMachineModel" 214 "StageMachineModel" "wear" "I" ∈ gtb := gt_in (tb_5_2 (i := 13) rfl) (by decide +kernel)
theorem wd_1006 : Cond.fieldLink "StageMachineModel" 194 "StageMachineModel" "why" "I" ∈ gtb := gt_in (tb_5_2 (i := 14) rfl) (by decide +kernel)
theorem wd_1007 : Cond.fieldLink "StageMachineModel" 64 "StageMachineModel" "whyThing" "I" ∈ gtb := gt_in (tb_5_2 (i := 15) rfl) (by decide +kernel)
theorem wd_1008 : Cond.fieldLink "StageMachineModel" 67 "StageMachineModel" "whyOther" "I" ∈ gtb := gt_in (tb_5_3 (i := 0) rfl) (by decide +kernel)
theorem wd_1009 : Cond.fieldLink "StageMachineModel" 70 "StageMachineModel" "catches" "[I" ∈ gtb := gt_in (tb_5_3 (i := 1) rfl) (by decide +kernel)
theorem wd_1010 : Cond.fieldLink "StageMachineModel" 73 "StageMachineModel" "catchAt" "[I" ∈ gtb := gt_in (tb_5_3 (i := 2) rfl) (by decide +kernel)
theorem wd_1011 : Cond.fieldLink "StageMachineModel" 76 "StageMachineModel" "scenes" "[I" ∈ gtb := gt_in (tb_5_3 (i := 3) rfl) (by decide +kernel)
theorem wd_1012 : Cond.fieldLink "StageMachineModel" 227 "StageMachineModel" "hasChange" "Z" ∈ gtb := gt_in (tb_5_3 (i := 4) rfl) (by decide +kernel)
theorem wd_1013 : Cond.fieldLink "StageMachineModel" 230 "StageMachineModel" "isNone" "Z" ∈ gtb := gt_in (tb_5_3 (i := 5) rfl) (by decide +kernel)
theorem wd_1014 : Cond.fieldLink "StageMachineModel" 79 "StageMachineModel" "toldRope" "[I" ∈ gtb := gt_in (tb_5_3 (i := 6) rfl) (by decide +kernel)
theorem wd_1015 : Cond.fieldLink "StageMachineModel" 82 "StageMachineModel" "toldDrum" "[I" ∈ gtb := gt_in (tb_5_3 (i := 7) rfl) (by decide +kernel)
theorem wd_1016 : Cond.fieldLink "StageMachineModel" 85 "StageMachineModel" "works" "[I" ∈ gtb := gt_in (tb_5_3 (i := 8) rfl) (by decide +kernel)
theorem wd_1017 : Cond.fieldLink "StageMachineModel" 233 "StageMachineModel" "toldMany" "I" ∈ gtb := gt_in (tb_5_3 (i := 9) rfl) (by decide +kernel)
theorem wd_1018 : Cond.fieldLink "StageMachineModel" 88 "StageMachineModel" "leastMen" "[I" ∈ gtb := gt_in (tb_5_3 (i := 10) rfl) (by decide +kernel)
theorem wd_1019 : Cond.fieldLink "StageMachineModel" 91 "StageMachineModel" "tape" "[B" ∈ gtb := gt_in (tb_5_3 (i := 11) rfl) (by decide +kernel)
theorem wd_1020 : Cond.fieldLink "StageMachineModel" 246 "StageMachineModel" "taped" "I" ∈ gtb := gt_in (tb_5_3 (i := 12) rfl) (by decide +kernel)
theorem wd_1021 : Cond.fieldLink "StageMachineModel" 249 "StageMachineModel" "here" "I" ∈ gtb := gt_in (tb_5_3 (i := 13) rfl) (by decide +kernel)
theorem wd_1022 : Cond.fieldLink "StageMachineModel" 258 "StageMachineModel" "lines" "I" ∈ gtb := gt_in (tb_5_3 (i := 14) rfl) (by decide +kernel)
theorem wd_1023 : Cond.fieldLink "StageMachineModel" 95 "StageMachineModel" "lineWhat" "[I" ∈ gtb := gt_in (tb_5_3 (i := 15) rfl) (by decide +kernel)
theorem wd_1024 : Cond.fieldLink "StageMachineModel" 98 "StageMachineModel" "lineA" "[I" ∈ gtb := gt_in (tb_5_4 (i := 0) rfl) (by decide +kernel)
theorem wd_1025 : Cond.fieldLink "StageMachineModel" 101 "StageMachineModel" "lineB" "[I" ∈ gtb := gt_in (tb_5_4 (i := 1) rfl) (by decide +kernel)
theorem wd_1026 : Cond.fieldLink "StageMachineModel" 162 "StageMachineModel" "canBack" "Z" ∈ gtb := gt_in (tb_5_4 (i := 2) rfl) (by decide +kernel)
theorem wd_1027 : Cond.fieldLink "StageMachineModel" 104 "StageMachineModel" "keptAt" "[I" ∈ gtb := gt_in (tb_5_4 (i := 3) rfl) (by decide +kernel)
theorem wd_1028 : Cond.fieldLink "StageMachineModel" 107 "StageMachineModel" "keptThen" "[I" ∈ gtb := gt_in (tb_5_4 (i := 4) rfl) (by decide +kernel)
theorem wd_1029 : Cond.fieldLink "StageMachineModel" 110 "StageMachineModel" "keptDrum" "[I" ∈ gtb := gt_in (tb_5_4 (i := 5) rfl) (by decide +kernel)
theorem wd_1030 : Cond.fieldLink "StageMachineModel" 113 "StageMachineModel" "keptDone" "[I" ∈ gtb := gt_in (tb_5_4 (i := 6) rfl) (by decide +kernel)
theorem wd_1031 : Cond.fieldLink "StageMachineModel" 116 "StageMachineModel" "keptCounter" "[I" ∈ gtb := gt_in (tb_5_4 (i := 7) rfl) (by decide +kernel)
theorem wd_1032 : Cond.fieldLink "StageMachineModel" 265 "StageMachineModel" "keptShaft" "I" ∈ gtb := gt_in (tb_5_4 (i := 8) rfl) (by decide +kernel)
theorem wd_1033 : Cond.fieldLink "StageMachineModel" 268 "StageMachineModel" "keptWear" "I" ∈ gtb := gt_in (tb_5_4 (i := 9) rfl) (by decide +kernel)
theorem wd_1034 : Cond.fieldLink "StageMachineModel" 255 "StageMachineModel" "number" "I" ∈ gtb := gt_in (tb_5_4 (i := 10) rfl) (by decide +kernel)
theorem wd_1035 : Cond.fieldLink "StageMachineModel" 278 "StageMachineModel" "time" "I" ∈ gtb := gt_in (tb_5_4 (i := 11) rfl) (by decide +kernel)
theorem wd_1036 : Cond.fieldLink "StageMachineModel" 281 "StageMachineModel" "candles" "I" ∈ gtb := gt_in (tb_5_4 (i := 12) rfl) (by decide +kernel)
theorem wd_1037 : Cond.fieldLink "StageMachineModel" 119 "StageMachineModel" "burns" "[I" ∈ gtb := gt_in (tb_5_4 (i := 13) rfl) (by decide +kernel)
theorem wd_1038 : Cond.fieldLink "StageMachineModel" 122 "StageMachineModel" "litAt" "[I" ∈ gtb := gt_in (tb_5_4 (i := 14) rfl) (by decide +kernel)
theorem wd_1039 : Cond.fieldLink "StageMachineModel" 290 "StageMachineModel" "flats" "I" ∈ gtb := gt_in (tb_5_4 (i := 15) rfl) (by decide +kernel)
theorem wd_1040 : Cond.fieldLink "StageMachineModel" 125 "StageMachineModel" "flatSize" "[I" ∈ gtb := gt_in (tb_5_5 (i := 0) rfl) (by decide +kernel)
theorem wd_1041 : Cond.fieldLink "StageMachineModel" 128 "StageMachineModel" "flatPaint" "[I" ∈ gtb := gt_in (tb_5_5 (i := 1) rfl) (by decide +kernel)
theorem wd_1042 : Cond.fieldLink "StageMachineModel" 293 "StageMachineModel" "wants" "I" ∈ gtb := gt_in (tb_5_5 (i := 2) rfl) (by decide +kernel)
theorem wd_1043 : Cond.fieldLink "StageMachineModel" 131 "StageMachineModel" "wantSize" "[I" ∈ gtb := gt_in (tb_5_5 (i := 3) rfl) (by decide +kernel)
theorem wd_1044 : Cond.fieldLink "StageMachineModel" 134 "StageMachineModel" "wantPaint" "[I" ∈ gtb := gt_in (tb_5_5 (i := 4) rfl) (by decide +kernel)
theorem wd_1045 : Cond.fieldLink "StageMachineModel" 137 "StageMachineModel" "trial" "[I" ∈ gtb := gt_in (tb_5_5 (i := 5) rfl) (by decide +kernel)
theorem wd_1046 : Cond.fieldLink "StageMachineModel" 308 "StageMachineModel" "givenMany" "I" ∈ gtb := gt_in (tb_5_5 (i := 6) rfl) (by decide +kernel)
theorem wd_1047 : Cond.fieldLink "StageMachineModel" 140 "StageMachineModel" "given" "[I" ∈ gtb := gt_in (tb_5_5 (i := 7) rfl) (by decide +kernel)
theorem wd_1179 : Cond.arrayClass FieldType.boolean ∈ gtb := gt_in (tb_5_13 (i := 11) rfl) (by decide +kernel)
theorem wd_1180 : Cond.arrayClass FieldType.byte ∈ gtb := gt_in (tb_5_13 (i := 12) rfl) (by decide +kernel)
theorem wd_1181 : Cond.methodLink "StageMachineLaw" 17 ⟨"StageMachineModel", "thing", "(IIII)I"⟩ ∈ gtb := gt_in (tb_5_13 (i := 13) rfl) (by decide +kernel)
theorem wd_1182 : Cond.instanceMethod ⟨"StageMachineModel", "thing", "(IIII)I"⟩ ∈ gtb := gt_in (tb_5_13 (i := 14) rfl) (by decide +kernel)
theorem wd_1183 : Cond.selects "StageMachineModel" ⟨"StageMachineModel", "thing", "(IIII)I"⟩ ⟨"StageMachineModel", "thing", "(IIII)I"⟩ ∈ gtb := gt_in (tb_5_13 (i := 15) rfl) (by decide +kernel)
theorem wd_1184 : Cond.code ⟨"StageMachineModel", "thing", "(IIII)I"⟩ prog_14_method_9_code 8 (some .int) ∈ gtb := gt_in (tb_5_14 (i := 0) rfl) (by decide +kernel)
theorem wd_1185 : Cond.methodLink "StageMachineModel" 149 ⟨"StageMachineModel", "in", "(III)Z"⟩ ∈ gtb := gt_in (tb_5_14 (i := 1) rfl) (by decide +kernel)
theorem wd_1186 : Cond.static ⟨"StageMachineModel", "in", "(III)Z"⟩ ∈ gtb := gt_in (tb_5_14 (i := 2) rfl) (by decide +kernel)
theorem wd_1187 : Cond.code ⟨"StageMachineModel", "in", "(III)Z"⟩ prog_14_method_3_code 3 (some .boolean) ∈ gtb := gt_in (tb_5_14 (i := 3) rfl) (by decide +kernel)
theorem wd_1188 : Cond.methodLink "StageMachineLaw" 22 ⟨"StageMachineModel", "ofThing", "(II)I"⟩ ∈ gtb := gt_in (tb_5_14 (i := 4) rfl) (by decide +kernel)
theorem wd_1189 : Cond.instanceMethod ⟨"StageMachineModel", "ofThing", "(II)I"⟩ ∈ gtb := gt_in (tb_5_14 (i := 5) rfl) (by decide +kernel)
theorem wd_1190 : Cond.selects "StageMachineModel" ⟨"StageMachineModel", "ofThing", "(II)I"⟩ ⟨"StageMachineModel", "ofThing", "(II)I"⟩ ∈ gtb := gt_in (tb_5_14 (i := 6) rfl) (by decide +kernel)
theorem wd_1191 : Cond.code ⟨"StageMachineModel", "ofThing", "(II)I"⟩ prog_14_method_11_code 3 (some .int) ∈ gtb := gt_in (tb_5_14 (i := 7) rfl) (by decide +kernel)
theorem wd_1192 : Cond.methodLink "StageMachineModel" 166 ⟨"StageMachineModel", "isThing", "(I)Z"⟩ ∈ gtb := gt_in (tb_5_14 (i := 8) rfl) (by decide +kernel)
theorem wd_1194 : Cond.instanceMethod ⟨"StageMachineModel", "isThing", "(I)Z"⟩ ∈ gtb := gt_in (tb_5_14 (i := 10) rfl) (by decide +kernel)
theorem wd_1195 : Cond.code ⟨"StageMachineModel", "isThing", "(I)Z"⟩ prog_14_method_4_code 2 (some .boolean) ∈ gtb := gt_in (tb_5_14 (i := 11) rfl) (by decide +kernel)
theorem wd_1196 : Cond.methodLink "StageMachineModel" 170 ⟨"StageMachineModel", "tiedTo", "(I)I"⟩ ∈ gtb := gt_in (tb_5_14 (i := 12) rfl) (by decide +kernel)
theorem wd_1198 : Cond.instanceMethod ⟨"StageMachineModel", "tiedTo", "(I)I"⟩ ∈ gtb := gt_in (tb_5_14 (i := 14) rfl) (by decide +kernel)
theorem wd_1199 : Cond.code ⟨"StageMachineModel", "tiedTo", "(I)I"⟩ prog_14_method_10_code 3 (some .int) ∈ gtb := gt_in (tb_5_14 (i := 15) rfl) (by decide +kernel)
theorem wd_1200 : Cond.methodLink "StageMachineLaw" 27 ⟨"StageMachineModel", "on", "(I)I"⟩ ∈ gtb := gt_in (tb_6_0 (i := 0) rfl) (by decide +kernel)
theorem wd_1201 : Cond.instanceMethod ⟨"StageMachineModel", "on", "(I)I"⟩ ∈ gtb := gt_in (tb_6_0 (i := 1) rfl) (by decide +kernel)
theorem wd_1202 : Cond.selects "StageMachineModel" ⟨"StageMachineModel", "on", "(I)I"⟩ ⟨"StageMachineModel", "on", "(I)I"⟩ ∈ gtb := gt_in (tb_6_0 (i := 2) rfl) (by decide +kernel)
theorem wd_1203 : Cond.code ⟨"StageMachineModel", "on", "(I)I"⟩ prog_14_method_12_code 3 (some .int) ∈ gtb := gt_in (tb_6_0 (i := 3) rfl) (by decide +kernel)
theorem wd_1204 : Cond.methodLink "StageMachineLaw" 31 ⟨"StageMachineModel", "drum", "(I)I"⟩ ∈ gtb := gt_in (tb_6_0 (i := 4) rfl) (by decide +kernel)
theorem wd_1205 : Cond.instanceMethod ⟨"StageMachineModel", "drum", "(I)I"⟩ ∈ gtb := gt_in (tb_6_0 (i := 5) rfl) (by decide +kernel)
theorem wd_1206 : Cond.selects "StageMachineModel" ⟨"StageMachineModel", "drum", "(I)I"⟩ ⟨"StageMachineModel", "drum", "(I)I"⟩ ∈ gtb := gt_in (tb_6_0 (i := 6) rfl) (by decide +kernel)
theorem wd_1207 : Cond.code ⟨"StageMachineModel", "drum", "(I)I"⟩ prog_14_method_13_code 2 (some .int) ∈ gtb := gt_in (tb_6_0 (i := 7) rfl) (by decide +kernel)
theorem wd_1208 : Cond.methodLink "StageMachineLaw" 36 ⟨"StageMachineModel", "rope", "(III)I"⟩ ∈ gtb := gt_in (tb_6_0 (i := 8) rfl) (by decide +kernel)
theorem wd_1209 : Cond.instanceMethod ⟨"StageMachineModel", "rope", "(III)I"⟩ ∈ gtb := gt_in (tb_6_0 (i := 9) rfl) (by decide +kernel)
theorem wd_1210 : Cond.selects "StageMachineModel" ⟨"StageMachineModel", "rope", "(III)I"⟩ ⟨"StageMachineModel", "rope", "(III)I"⟩ ∈ gtb := gt_in (tb_6_0 (i := 10) rfl) (by decide +kernel)
theorem wd_1211 : Cond.code ⟨"StageMachineModel", "rope", "(III)I"⟩ prog_14_method_14_code 4 (some .int) ∈ gtb := gt_in (tb_6_0 (i := 11) rfl) (by decide +kernel)
theorem wd_1212 : Cond.methodLink "StageMachineLaw" 40 ⟨"StageMachineModel", "ofRope", "(II)I"⟩ ∈ gtb := gt_in (tb_6_0 (i := 12) rfl) (by decide +kernel)
theorem wd_1213 : Cond.instanceMethod ⟨"StageMachineModel", "ofRope", "(II)I"⟩ ∈ gtb := gt_in (tb_6_0 (i := 13) rfl) (by decide +kernel)
theorem wd_1214 : Cond.selects "StageMachineModel" ⟨"StageMachineModel", "ofRope", "(II)I"⟩ ⟨"StageMachineModel", "ofRope", "(II)I"⟩ ∈ gtb := gt_in (tb_6_0 (i := 14) rfl) (by decide +kernel)
theorem wd_1215 : Cond.code ⟨"StageMachineModel", "ofRope", "(II)I"⟩ prog_14_method_16_code 3 (some .int) ∈ gtb := gt_in (tb_6_0 (i := 15) rfl) (by decide +kernel)
theorem wd_1216 : Cond.methodLink "StageMachineModel" 174 ⟨"StageMachineModel", "isRope", "(I)Z"⟩ ∈ gtb := gt_in (tb_6_1 (i := 0) rfl) (by decide +kernel)
theorem wd_1218 : Cond.instanceMethod ⟨"StageMachineModel", "isRope", "(I)Z"⟩ ∈ gtb := gt_in (tb_6_1 (i := 2) rfl) (by decide +kernel)
theorem wd_1219 : Cond.code ⟨"StageMachineModel", "isRope", "(I)Z"⟩ prog_14_method_5_code 2 (some .boolean) ∈ gtb := gt_in (tb_6_1 (i := 3) rfl) (by decide +kernel)
theorem wd_1220 : Cond.constant "StageMachineModel" 177 (-2000000000) ∈ gtb := gt_in (tb_6_1 (i := 4) rfl) (by decide +kernel)
theorem wd_1221 : Cond.methodLink "StageMachineModel" 178 ⟨"StageMachineModel", "load", "(I)I"⟩ ∈ gtb := gt_in (tb_6_1 (i := 5) rfl) (by decide +kernel)
theorem wd_1223 : Cond.instanceMethod ⟨"StageMachineModel", "load", "(I)I"⟩ ∈ gtb := gt_in (tb_6_1 (i := 7) rfl) (by decide +kernel)
theorem wd_1224 : Cond.code ⟨"StageMachineModel", "load", "(I)I"⟩ prog_14_method_15_code 2 (some .int) ∈ gtb := gt_in (tb_6_1 (i := 8) rfl) (by decide +kernel)
theorem wd_1225 : Cond.methodLink "StageMachineLaw" 44 ⟨"StageMachineModel", "tie", "(II)I"⟩ ∈ gtb := gt_in (tb_6_1 (i := 9) rfl) (by decide +kernel)
theorem wd_1226 : Cond.instanceMethod ⟨"StageMachineModel", "tie", "(II)I"⟩ ∈ gtb := gt_in (tb_6_1 (i := 10) rfl) (by decide +kernel)
theorem wd_1227 : Cond.selects "StageMachineModel" ⟨"StageMachineModel", "tie", "(II)I"⟩ ⟨"StageMachineModel", "tie", "(II)I"⟩ ∈ gtb := gt_in (tb_6_1 (i := 11) rfl) (by decide +kernel)
theorem wd_1228 : Cond.code ⟨"StageMachineModel", "tie", "(II)I"⟩ prog_14_method_18_code 4 (some .int) ∈ gtb := gt_in (tb_6_1 (i := 12) rfl) (by decide +kernel)
theorem wd_1229 : Cond.methodLink "StageMachineModel" 184 ⟨"StageMachineModel", "tieNow", "(II)I"⟩ ∈ gtb := gt_in (tb_6_1 (i := 13) rfl) (by decide +kernel)
theorem wd_1231 : Cond.instanceMethod ⟨"StageMachineModel", "tieNow", "(II)I"⟩ ∈ gtb := gt_in (tb_6_1 (i := 15) rfl) (by decide +kernel)
theorem wd_1232 : Cond.code ⟨"StageMachineModel", "tieNow", "(II)I"⟩ prog_14_method_17_code 3 (some .int) ∈ gtb := gt_in (tb_6_2 (i := 0) rfl) (by decide +kernel)
theorem wd_1233 : Cond.methodLink "StageMachineModel" 181 ⟨"StageMachineModel", "isDrum", "(I)Z"⟩ ∈ gtb := gt_in (tb_6_2 (i := 1) rfl) (by decide +kernel)
theorem wd_1235 : Cond.instanceMethod ⟨"StageMachineModel", "isDrum", "(I)Z"⟩ ∈ gtb := gt_in (tb_6_2 (i := 3) rfl) (by decide +kernel)
theorem wd_1236 : Cond.code ⟨"StageMachineModel", "isDrum", "(I)Z"⟩ prog_14_method_6_code 2 (some .boolean) ∈ gtb := gt_in (tb_6_2 (i := 4) rfl) (by decide +kernel)
theorem wd_1237 : Cond.methodLink "StageMachineLaw" 48 ⟨"StageMachineModel", "untie", "(I)I"⟩ ∈ gtb := gt_in (tb_6_2 (i := 5) rfl) (by decide +kernel)
theorem wd_1238 : Cond.instanceMethod ⟨"StageMachineModel", "untie", "(I)I"⟩ ∈ gtb := gt_in (tb_6_2 (i := 6) rfl) (by decide +kernel)
theorem wd_1239 : Cond.selects "StageMachineModel" ⟨"StageMachineModel", "untie", "(I)I"⟩ ⟨"StageMachineModel", "untie", "(I)I"⟩ ∈ gtb := gt_in (tb_6_2 (i := 7) rfl) (by decide +kernel)
theorem wd_1240 : Cond.code ⟨"StageMachineModel", "untie", "(I)I"⟩ prog_14_method_20_code 3 (some .int) ∈ gtb := gt_in (tb_6_2 (i := 8) rfl) (by decide +kernel)
theorem wd_1241 : Cond.methodLink "StageMachineModel" 188 ⟨"StageMachineModel", "untieNow", "(I)I"⟩ ∈ gtb := gt_in (tb_6_2 (i := 9) rfl) (by decide +kernel)
theorem wd_1243 : Cond.instanceMethod ⟨"StageMachineModel", "untieNow", "(I)I"⟩ ∈ gtb := gt_in (tb_6_2 (i := 11) rfl) (by decide +kernel)
theorem wd_1244 : Cond.code ⟨"StageMachineModel", "untieNow", "(I)I"⟩ prog_14_method_19_code 2 (some .int) ∈ gtb := gt_in (tb_6_2 (i := 12) rfl) (by decide +kernel)
theorem wd_1245 : Cond.methodLink "StageMachineLaw" 52 ⟨"StageMachineModel", "weight", "(II)I"⟩ ∈ gtb := gt_in (tb_6_2 (i := 13) rfl) (by decide +kernel)
theorem wd_1246 : Cond.instanceMethod ⟨"StageMachineModel", "weight", "(II)I"⟩ ∈ gtb := gt_in (tb_6_2 (i := 14) rfl) (by decide +kernel)
theorem wd_1247 : Cond.selects "StageMachineModel" ⟨"StageMachineModel", "weight", "(II)I"⟩ ⟨"StageMachineModel", "weight", "(II)I"⟩ ∈ gtb := gt_in (tb_6_2 (i := 15) rfl) (by decide +kernel)
theorem wd_1248 : Cond.code ⟨"StageMachineModel", "weight", "(II)I"⟩ prog_14_method_22_code 4 (some .int) ∈ gtb := gt_in (tb_6_3 (i := 0) rfl) (by decide +kernel)
theorem wd_1249 : Cond.methodLink "StageMachineModel" 191 ⟨"StageMachineModel", "weighNow", "(II)I"⟩ ∈ gtb := gt_in (tb_6_3 (i := 1) rfl) (by decide +kernel)
theorem wd_1251 : Cond.instanceMethod ⟨"StageMachineModel", "weighNow", "(II)I"⟩ ∈ gtb := gt_in (tb_6_3 (i := 3) rfl) (by decide +kernel)
theorem wd_1252 : Cond.code ⟨"StageMachineModel", "weighNow", "(II)I"⟩ prog_14_method_21_code 4 (some .int) ∈ gtb := gt_in (tb_6_3 (i := 4) rfl) (by decide +kernel)
theorem wd_1253 : Cond.methodLink "StageMachineLaw" 56 ⟨"StageMachineModel", "bound", "(I)I"⟩ ∈ gtb := gt_in (tb_6_3 (i := 5) rfl) (by decide +kernel)
theorem wd_1254 : Cond.instanceMethod ⟨"StageMachineModel", "bound", "(I)I"⟩ ∈ gtb := gt_in (tb_6_3 (i := 6) rfl) (by decide +kernel)
theorem wd_1255 : Cond.selects "StageMachineModel" ⟨"StageMachineModel", "bound", "(I)I"⟩ ⟨"StageMachineModel", "bound", "(I)I"⟩ ∈ gtb := gt_in (tb_6_3 (i := 7) rfl) (by decide +kernel)
theorem wd_1256 : Cond.code ⟨"StageMachineModel", "bound", "(I)I"⟩ prog_14_method_23_code 3 (some .int) ∈ gtb := gt_in (tb_6_3 (i := 8) rfl) (by decide +kernel)
theorem wd_1257 : Cond.methodLink "StageMachineLaw" 61 ⟨"StageMachineModel", "pull", "()I"⟩ ∈ gtb := gt_in (tb_6_3 (i := 9) rfl) (by decide +kernel)
theorem wd_1258 : Cond.instanceMethod ⟨"StageMachineModel", "pull", "()I"⟩ ∈ gtb := gt_in (tb_6_3 (i := 10) rfl) (by decide +kernel)
theorem wd_1259 : Cond.selects "StageMachineModel" ⟨"StageMachineModel", "pull", "()I"⟩ ⟨"StageMachineModel", "pull", "()I"⟩ ∈ gtb := gt_in (tb_6_3 (i := 11) rfl) (by decide +kernel)
theorem wd_1260 : Cond.code ⟨"StageMachineModel", "pull", "()I"⟩ prog_14_method_24_code 4 (some .int) ∈ gtb := gt_in (tb_6_3 (i := 12) rfl) (by decide +kernel)
theorem wd_1261 : Cond.methodLink "StageMachineLaw" 65 ⟨"StageMachineModel", "turn", "(I)I"⟩ ∈ gtb := gt_in (tb_6_3 (i := 13) rfl) (by decide +kernel)
theorem wd_1262 : Cond.instanceMethod ⟨"StageMachineModel", "turn", "(I)I"⟩ ∈ gtb := gt_in (tb_6_3 (i := 14) rfl) (by decide +kernel)
theorem wd_1263 : Cond.selects "StageMachineModel" ⟨"StageMachineModel", "turn", "(I)I"⟩ ⟨"StageMachineModel", "turn", "(I)I"⟩ ∈ gtb := gt_in (tb_6_3 (i := 15) rfl) (by decide +kernel)
theorem wd_1264 : Cond.code ⟨"StageMachineModel", "turn", "(I)I"⟩ prog_14_method_29_code 3 (some .int) ∈ gtb := gt_in (tb_6_4 (i := 0) rfl) (by decide +kernel)
theorem wd_1265 : Cond.methodLink "StageMachineModel" 217 ⟨"StageMachineModel", "isTurn", "(I)Z"⟩ ∈ gtb := gt_in (tb_6_4 (i := 1) rfl) (by decide +kernel)
theorem wd_1266 : Cond.static ⟨"StageMachineModel", "isTurn", "(I)Z"⟩ ∈ gtb := gt_in (tb_6_4 (i := 2) rfl) (by decide +kernel)
theorem wd_1267 : Cond.code ⟨"StageMachineModel", "isTurn", "(I)Z"⟩ prog_14_method_28_code 1 (some .boolean) ∈ gtb := gt_in (tb_6_4 (i := 3) rfl) (by decide +kernel)
theorem wd_1268 : Cond.methodLink "StageMachineModel" 220 ⟨"StageMachineModel", "turnNow", "(I)I"⟩ ∈ gtb := gt_in (tb_6_4 (i := 4) rfl) (by decide +kernel)
theorem wd_1270 : Cond.instanceMethod ⟨"StageMachineModel", "turnNow", "(I)I"⟩ ∈ gtb := gt_in (tb_6_4 (i := 6) rfl) (by decide +kernel)
theorem wd_1271 : Cond.code ⟨"StageMachineModel", "turnNow", "(I)I"⟩ prog_14_method_27_code 5 (some .int) ∈ gtb := gt_in (tb_6_4 (i := 7) rfl) (by decide +kernel)
theorem wd_1272 : Cond.methodLink "StageMachineModel" 204 ⟨"StageMachineModel", "place", "(I)V"⟩ ∈ gtb := gt_in (tb_6_4 (i := 8) rfl) (by decide +kernel)
theorem wd_1274 : Cond.instanceMethod ⟨"StageMachineModel", "place", "(I)V"⟩ ∈ gtb := gt_in (tb_6_4 (i := 10) rfl) (by decide +kernel)
theorem wd_1275 : Cond.code ⟨"StageMachineModel", "place", "(I)V"⟩ prog_14_method_25_code 4 none ∈ gtb := gt_in (tb_6_4 (i := 11) rfl) (by decide +kernel)
theorem wd_1276 : Cond.methodLink "StageMachineModel" 208 ⟨"StageMachineModel", "find", "()V"⟩ ∈ gtb := gt_in (tb_6_4 (i := 12) rfl) (by decide +kernel)
theorem wd_1278 : Cond.instanceMethod ⟨"StageMachineModel", "find", "()V"⟩ ∈ gtb := gt_in (tb_6_4 (i := 14) rfl) (by decide +kernel)
theorem wd_1279 : Cond.code ⟨"StageMachineModel", "find", "()V"⟩ prog_14_method_26_code 2 none ∈ gtb := gt_in (tb_6_4 (i := 15) rfl) (by decide +kernel)
theorem wd_1280 : Cond.methodLink "StageMachineModel" 197 ⟨"StageMachineModel", "other", "(II)I"⟩ ∈ gtb := gt_in (tb_6_5 (i := 0) rfl) (by decide +kernel)
theorem wd_1282 : Cond.instanceMethod ⟨"StageMachineModel", "other", "(II)I"⟩ ∈ gtb := gt_in (tb_6_5 (i := 2) rfl) (by decide +kernel)
theorem wd_1283 : Cond.code ⟨"StageMachineModel", "other", "(II)I"⟩ prog_14_method_8_code 4 (some .int) ∈ gtb := gt_in (tb_6_5 (i := 3) rfl) (by decide +kernel)
theorem wd_1284 : Cond.methodLink "StageMachineModel" 159 ⟨"StageMachineModel", "meets", "(III)Z"⟩ ∈ gtb := gt_in (tb_6_5 (i := 4) rfl) (by decide +kernel)
theorem wd_1286 : Cond.instanceMethod ⟨"StageMachineModel", "meets", "(III)Z"⟩ ∈ gtb := gt_in (tb_6_5 (i := 6) rfl) (by decide +kernel)
theorem wd_1287 : Cond.code ⟨"StageMachineModel", "meets", "(III)Z"⟩ prog_14_method_7_code 4 (some .boolean) ∈ gtb := gt_in (tb_6_5 (i := 7) rfl) (by decide +kernel)
theorem wd_1288 : Cond.methodLink "StageMachineModel" 200 ⟨"StageMachineModel", "pull", "()I"⟩ ∈ gtb := gt_in (tb_6_5 (i := 8) rfl) (by decide +kernel)
theorem wd_1289 : Cond.methodLink "StageMachineLaw" 69 ⟨"StageMachineModel", "stopped", "(I)I"⟩ ∈ gtb := gt_in (tb_6_5 (i := 9) rfl) (by decide +kernel)
theorem wd_1290 : Cond.instanceMethod ⟨"StageMachineModel", "stopped", "(I)I"⟩ ∈ gtb := gt_in (tb_6_5 (i := 10) rfl) (by decide +kernel)
theorem wd_1291 : Cond.selects "StageMachineModel" ⟨"StageMachineModel", "stopped", "(I)I"⟩ ⟨"StageMachineModel", "stopped", "(I)I"⟩ ∈ gtb := gt_in (tb_6_5 (i := 11) rfl) (by decide +kernel)
theorem wd_1292 : Cond.code ⟨"StageMachineModel", "stopped", "(I)I"⟩ prog_14_method_30_code 2 (some .int) ∈ gtb := gt_in (tb_6_5 (i := 12) rfl) (by decide +kernel)
theorem wd_1293 : Cond.methodLink "StageMachineLaw" 73 ⟨"StageMachineModel", "free", "(I)I"⟩ ∈ gtb := gt_in (tb_6_5 (i := 13) rfl) (by decide +kernel)
theorem wd_1294 : Cond.instanceMethod ⟨"StageMachineModel", "free", "(I)I"⟩ ∈ gtb := gt_in (tb_6_5 (i := 14) rfl) (by decide +kernel)
theorem wd_1295 : Cond.selects "StageMachineModel" ⟨"StageMachineModel", "free", "(I)I"⟩ ⟨"StageMachineModel", "free", "(I)I"⟩ ∈ gtb := gt_in (tb_6_5 (i := 15) rfl) (by decide +kernel)
theorem wd_1296 : Cond.code ⟨"StageMachineModel", "free", "(I)I"⟩ prog_14_method_31_code 9 (some .int) ∈ gtb := gt_in (tb_6_6 (i := 0) rfl) (by decide +kernel)
theorem wd_1297 : Cond.methodLink "StageMachineLaw" 81 ⟨"StageMachineModel", "hold", "(I)I"⟩ ∈ gtb := gt_in (tb_6_6 (i := 1) rfl) (by decide +kernel)
theorem wd_1298 : Cond.instanceMethod ⟨"StageMachineModel", "hold", "(I)I"⟩ ∈ gtb := gt_in (tb_6_6 (i := 2) rfl) (by decide +kernel)
theorem wd_1299 : Cond.selects "StageMachineModel" ⟨"StageMachineModel", "hold", "(I)I"⟩ ⟨"StageMachineModel", "hold", "(I)I"⟩ ∈ gtb := gt_in (tb_6_6 (i := 3) rfl) (by decide +kernel)
theorem wd_1300 : Cond.code ⟨"StageMachineModel", "hold", "(I)I"⟩ prog_14_method_33_code 3 (some .int) ∈ gtb := gt_in (tb_6_6 (i := 4) rfl) (by decide +kernel)
theorem wd_1301 : Cond.methodLink "StageMachineModel" 223 ⟨"StageMachineModel", "isCaught", "(II)Z"⟩ ∈ gtb := gt_in (tb_6_6 (i := 5) rfl) (by decide +kernel)
theorem wd_1303 : Cond.instanceMethod ⟨"StageMachineModel", "isCaught", "(II)Z"⟩ ∈ gtb := gt_in (tb_6_6 (i := 7) rfl) (by decide +kernel)
theorem wd_1304 : Cond.code ⟨"StageMachineModel", "isCaught", "(II)Z"⟩ prog_14_method_32_code 4 (some .boolean) ∈ gtb := gt_in (tb_6_6 (i := 8) rfl) (by decide +kernel)
theorem wd_1305 : Cond.methodLink "StageMachineLaw" 77 ⟨"StageMachineModel", "snap", "(I)I"⟩ ∈ gtb := gt_in (tb_6_6 (i := 9) rfl) (by decide +kernel)
theorem wd_1306 : Cond.instanceMethod ⟨"StageMachineModel", "snap", "(I)I"⟩ ∈ gtb := gt_in (tb_6_6 (i := 10) rfl) (by decide +kernel)
theorem wd_1307 : Cond.selects "StageMachineModel" ⟨"StageMachineModel", "snap", "(I)I"⟩ ⟨"StageMachineModel", "snap", "(I)I"⟩ ∈ gtb := gt_in (tb_6_6 (i := 11) rfl) (by decide +kernel)
theorem wd_1308 : Cond.code ⟨"StageMachineModel", "snap", "(I)I"⟩ prog_14_method_34_code 5 (some .int) ∈ gtb := gt_in (tb_6_6 (i := 12) rfl) (by decide +kernel)
theorem wd_1309 : Cond.methodLink "StageMachineLaw" 85 ⟨"StageMachineModel", "scene", "(III)I"⟩ ∈ gtb := gt_in (tb_6_6 (i := 13) rfl) (by decide +kernel)
theorem wd_1310 : Cond.instanceMethod ⟨"StageMachineModel", "scene", "(III)I"⟩ ∈ gtb := gt_in (tb_6_6 (i := 14) rfl) (by decide +kernel)
theorem wd_1311 : Cond.selects "StageMachineModel" ⟨"StageMachineModel", "scene", "(III)I"⟩ ⟨"StageMachineModel", "scene", "(III)I"⟩ ∈ gtb := gt_in (tb_6_6 (i := 15) rfl) (by decide +kernel)
theorem wd_1312 : Cond.code ⟨"StageMachineModel", "scene", "(III)I"⟩ prog_14_method_35_code 5 (some .int) ∈ gtb := gt_in (tb_6_7 (i := 0) rfl) (by decide +kernel)
theorem wd_1313 : Cond.methodLink "StageMachineLaw" 89 ⟨"StageMachineModel", "change", "(II)I"⟩ ∈ gtb := gt_in (tb_6_7 (i := 1) rfl) (by decide +kernel)
theorem wd_1314 : Cond.instanceMethod ⟨"StageMachineModel", "change", "(II)I"⟩ ∈ gtb := gt_in (tb_6_7 (i := 2) rfl) (by decide +kernel)
theorem wd_1315 : Cond.selects "StageMachineModel" ⟨"StageMachineModel", "change", "(II)I"⟩ ⟨"StageMachineModel", "change", "(II)I"⟩ ∈ gtb := gt_in (tb_6_7 (i := 3) rfl) (by decide +kernel)
theorem wd_1316 : Cond.code ⟨"StageMachineModel", "change", "(II)I"⟩ prog_14_method_38_code 6 (some .int) ∈ gtb := gt_in (tb_6_7 (i := 4) rfl) (by decide +kernel)
theorem wd_1317 : Cond.methodLink "StageMachineModel" 236 ⟨"StageMachineModel", "brings", "(III)Z"⟩ ∈ gtb := gt_in (tb_6_7 (i := 5) rfl) (by decide +kernel)
theorem wd_1319 : Cond.instanceMethod ⟨"StageMachineModel", "brings", "(III)Z"⟩ ∈ gtb := gt_in (tb_6_7 (i := 7) rfl) (by decide +kernel)
theorem wd_1320 : Cond.code ⟨"StageMachineModel", "brings", "(III)Z"⟩ prog_14_method_36_code 6 (some .boolean) ∈ gtb := gt_in (tb_6_7 (i := 8) rfl) (by decide +kernel)
theorem wd_1321 : Cond.methodLink "StageMachineModel" 239 ⟨"StageMachineModel", "workOf", "(I)I"⟩ ∈ gtb := gt_in (tb_6_7 (i := 9) rfl) (by decide +kernel)
theorem wd_1323 : Cond.instanceMethod ⟨"StageMachineModel", "workOf", "(I)I"⟩ ∈ gtb := gt_in (tb_6_7 (i := 11) rfl) (by decide +kernel)
theorem wd_1324 : Cond.code ⟨"StageMachineModel", "workOf", "(I)I"⟩ prog_14_method_37_code 3 (some .int) ∈ gtb := gt_in (tb_6_7 (i := 12) rfl) (by decide +kernel)
theorem wd_1325 : Cond.methodLink "StageMachineLaw" 93 ⟨"StageMachineModel", "told", "(II)I"⟩ ∈ gtb := gt_in (tb_6_7 (i := 13) rfl) (by decide +kernel)
theorem wd_1326 : Cond.instanceMethod ⟨"StageMachineModel", "told", "(II)I"⟩ ∈ gtb := gt_in (tb_6_7 (i := 14) rfl) (by decide +kernel)
theorem wd_1327 : Cond.selects "StageMachineModel" ⟨"StageMachineModel", "told", "(II)I"⟩ ⟨"StageMachineModel", "told", "(II)I"⟩ ∈ gtb := gt_in (tb_6_7 (i := 15) rfl) (by decide +kernel)
theorem wd_1328 : Cond.code ⟨"StageMachineModel", "told", "(II)I"⟩ prog_14_method_39_code 3 (some .int) ∈ gtb := gt_in (tb_6_8 (i := 0) rfl) (by decide +kernel)
theorem wd_1329 : Cond.methodLink "StageMachineLaw" 97 ⟨"StageMachineModel", "work", "(I)I"⟩ ∈ gtb := gt_in (tb_6_8 (i := 1) rfl) (by decide +kernel)
theorem wd_1330 : Cond.instanceMethod ⟨"StageMachineModel", "work", "(I)I"⟩ ∈ gtb := gt_in (tb_6_8 (i := 2) rfl) (by decide +kernel)
theorem wd_1331 : Cond.selects "StageMachineModel" ⟨"StageMachineModel", "work", "(I)I"⟩ ⟨"StageMachineModel", "work", "(I)I"⟩ ∈ gtb := gt_in (tb_6_8 (i := 3) rfl) (by decide +kernel)
theorem wd_1332 : Cond.code ⟨"StageMachineModel", "work", "(I)I"⟩ prog_14_method_40_code 4 (some .int) ∈ gtb := gt_in (tb_6_8 (i := 4) rfl) (by decide +kernel)
theorem wd_1333 : Cond.methodLink "StageMachineLaw" 101 ⟨"StageMachineModel", "men", "(I)I"⟩ ∈ gtb := gt_in (tb_6_8 (i := 5) rfl) (by decide +kernel)
theorem wd_1334 : Cond.instanceMethod ⟨"StageMachineModel", "men", "(I)I"⟩ ∈ gtb := gt_in (tb_6_8 (i := 6) rfl) (by decide +kernel)
theorem wd_1335 : Cond.selects "StageMachineModel" ⟨"StageMachineModel", "men", "(I)I"⟩ ⟨"StageMachineModel", "men", "(I)I"⟩ ∈ gtb := gt_in (tb_6_8 (i := 7) rfl) (by decide +kernel)
theorem wd_1336 : Cond.code ⟨"StageMachineModel", "men", "(I)I"⟩ prog_14_method_42_code 6 (some .int) ∈ gtb := gt_in (tb_6_8 (i := 8) rfl) (by decide +kernel)
theorem wd_1337 : Cond.methodLink "StageMachineModel" 242 ⟨"StageMachineModel", "menFor", "(IIII)I"⟩ ∈ gtb := gt_in (tb_6_8 (i := 9) rfl) (by decide +kernel)
theorem wd_1339 : Cond.instanceMethod ⟨"StageMachineModel", "menFor", "(IIII)I"⟩ ∈ gtb := gt_in (tb_6_8 (i := 11) rfl) (by decide +kernel)
theorem wd_1340 : Cond.code ⟨"StageMachineModel", "menFor", "(IIII)I"⟩ prog_14_method_41_code 13 (some .int) ∈ gtb := gt_in (tb_6_8 (i := 12) rfl) (by decide +kernel)
theorem wd_1341 : Cond.methodLink "StageMachineLaw" 105 ⟨"StageMachineModel", "feed", "(II)I"⟩ ∈ gtb := gt_in (tb_6_8 (i := 13) rfl) (by decide +kernel)
theorem wd_1342 : Cond.instanceMethod ⟨"StageMachineModel", "feed", "(II)I"⟩ ∈ gtb := gt_in (tb_6_8 (i := 14) rfl) (by decide +kernel)
theorem wd_1343 : Cond.selects "StageMachineModel" ⟨"StageMachineModel", "feed", "(II)I"⟩ ⟨"StageMachineModel", "feed", "(II)I"⟩ ∈ gtb := gt_in (tb_6_8 (i := 15) rfl) (by decide +kernel)
theorem wd_1344 : Cond.code ⟨"StageMachineModel", "feed", "(II)I"⟩ prog_14_method_43_code 4 (some .int) ∈ gtb := gt_in (tb_6_9 (i := 0) rfl) (by decide +kernel)
theorem wd_1345 : Cond.methodLink "StageMachineLaw" 109 ⟨"StageMachineModel", "play", "()I"⟩ ∈ gtb := gt_in (tb_6_9 (i := 1) rfl) (by decide +kernel)
theorem wd_1346 : Cond.instanceMethod ⟨"StageMachineModel", "play", "()I"⟩ ∈ gtb := gt_in (tb_6_9 (i := 2) rfl) (by decide +kernel)
theorem wd_1347 : Cond.selects "StageMachineModel" ⟨"StageMachineModel", "play", "()I"⟩ ⟨"StageMachineModel", "play", "()I"⟩ ∈ gtb := gt_in (tb_6_9 (i := 3) rfl) (by decide +kernel)
theorem wd_1348 : Cond.code ⟨"StageMachineModel", "play", "()I"⟩ prog_14_method_48_code 5 (some .int) ∈ gtb := gt_in (tb_6_9 (i := 4) rfl) (by decide +kernel)
theorem wd_1349 : Cond.methodLink "StageMachineModel" 271 ⟨"StageMachineModel", "line", "()Z"⟩ ∈ gtb := gt_in (tb_6_9 (i := 5) rfl) (by decide +kernel)
theorem wd_1351 : Cond.instanceMethod ⟨"StageMachineModel", "line", "()Z"⟩ ∈ gtb := gt_in (tb_6_9 (i := 7) rfl) (by decide +kernel)
theorem wd_1352 : Cond.code ⟨"StageMachineModel", "line", "()Z"⟩ prog_14_method_46_code 2 (some .boolean) ∈ gtb := gt_in (tb_6_9 (i := 8) rfl) (by decide +kernel)
theorem wd_1353 : Cond.methodLink "StageMachineModel" 252 ⟨"StageMachineModel", "look", "()I"⟩ ∈ gtb := gt_in (tb_6_9 (i := 9) rfl) (by decide +kernel)
theorem wd_1355 : Cond.instanceMethod ⟨"StageMachineModel", "look", "()I"⟩ ∈ gtb := gt_in (tb_6_9 (i := 11) rfl) (by decide +kernel)
theorem wd_1356 : Cond.code ⟨"StageMachineModel", "look", "()I"⟩ prog_14_method_44_code 1 (some .int) ∈ gtb := gt_in (tb_6_9 (i := 12) rfl) (by decide +kernel)
theorem wd_1357 : Cond.methodLink "StageMachineModel" 261 ⟨"StageMachineModel", "takes", "(Z)Z"⟩ ∈ gtb := gt_in (tb_6_9 (i := 13) rfl) (by decide +kernel)
theorem wd_1359 : Cond.instanceMethod ⟨"StageMachineModel", "takes", "(Z)Z"⟩ ∈ gtb := gt_in (tb_6_9 (i := 15) rfl) (by decide +kernel)
theorem wd_1360 : Cond.code ⟨"StageMachineModel", "takes", "(Z)Z"⟩ prog_14_method_45_code 4 (some .boolean) ∈ gtb := gt_in (tb_6_10 (i := 0) rfl) (by decide +kernel)
theorem wd_1361 : Cond.methodLink "StageMachineModel" 275 ⟨"StageMachineModel", "keep", "()V"⟩ ∈ gtb := gt_in (tb_6_10 (i := 1) rfl) (by decide +kernel)
theorem wd_1363 : Cond.instanceMethod ⟨"StageMachineModel", "keep", "()V"⟩ ∈ gtb := gt_in (tb_6_10 (i := 3) rfl) (by decide +kernel)
theorem wd_1364 : Cond.code ⟨"StageMachineModel", "keep", "()V"⟩ prog_14_method_47_code 2 none ∈ gtb := gt_in (tb_6_10 (i := 4) rfl) (by decide +kernel)
theorem wd_1365 : Cond.methodLink "StageMachineLaw" 113 ⟨"StageMachineModel", "back", "()I"⟩ ∈ gtb := gt_in (tb_6_10 (i := 5) rfl) (by decide +kernel)
theorem wd_1366 : Cond.instanceMethod ⟨"StageMachineModel", "back", "()I"⟩ ∈ gtb := gt_in (tb_6_10 (i := 6) rfl) (by decide +kernel)
theorem wd_1367 : Cond.selects "StageMachineModel" ⟨"StageMachineModel", "back", "()I"⟩ ⟨"StageMachineModel", "back", "()I"⟩ ∈ gtb := gt_in (tb_6_10 (i := 7) rfl) (by decide +kernel)
theorem wd_1368 : Cond.code ⟨"StageMachineModel", "back", "()I"⟩ prog_14_method_49_code 2 (some .int) ∈ gtb := gt_in (tb_6_10 (i := 8) rfl) (by decide +kernel)
theorem wd_1369 : Cond.methodLink "StageMachineLaw" 117 ⟨"StageMachineModel", "candle", "(I)I"⟩ ∈ gtb := gt_in (tb_6_10 (i := 9) rfl) (by decide +kernel)
theorem wd_1370 : Cond.instanceMethod ⟨"StageMachineModel", "candle", "(I)I"⟩ ∈ gtb := gt_in (tb_6_10 (i := 10) rfl) (by decide +kernel)
theorem wd_1371 : Cond.selects "StageMachineModel" ⟨"StageMachineModel", "candle", "(I)I"⟩ ⟨"StageMachineModel", "candle", "(I)I"⟩ ∈ gtb := gt_in (tb_6_10 (i := 11) rfl) (by decide +kernel)
theorem wd_1372 : Cond.code ⟨"StageMachineModel", "candle", "(I)I"⟩ prog_14_method_51_code 2 (some .int) ∈ gtb := gt_in (tb_6_10 (i := 12) rfl) (by decide +kernel)
theorem wd_1373 : Cond.methodLink "StageMachineLaw" 121 ⟨"StageMachineModel", "minutes", "(I)I"⟩ ∈ gtb := gt_in (tb_6_10 (i := 13) rfl) (by decide +kernel)
theorem wd_1374 : Cond.instanceMethod ⟨"StageMachineModel", "minutes", "(I)I"⟩ ∈ gtb := gt_in (tb_6_10 (i := 14) rfl) (by decide +kernel)
theorem wd_1375 : Cond.selects "StageMachineModel" ⟨"StageMachineModel", "minutes", "(I)I"⟩ ⟨"StageMachineModel", "minutes", "(I)I"⟩ ∈ gtb := gt_in (tb_6_10 (i := 15) rfl) (by decide +kernel)
theorem wd_1376 : Cond.code ⟨"StageMachineModel", "minutes", "(I)I"⟩ prog_14_method_52_code 2 (some .int) ∈ gtb := gt_in (tb_6_11 (i := 0) rfl) (by decide +kernel)
theorem wd_1377 : Cond.methodLink "StageMachineLaw" 125 ⟨"StageMachineModel", "trim", "(I)I"⟩ ∈ gtb := gt_in (tb_6_11 (i := 1) rfl) (by decide +kernel)
theorem wd_1378 : Cond.instanceMethod ⟨"StageMachineModel", "trim", "(I)I"⟩ ∈ gtb := gt_in (tb_6_11 (i := 2) rfl) (by decide +kernel)
theorem wd_1379 : Cond.selects "StageMachineModel" ⟨"StageMachineModel", "trim", "(I)I"⟩ ⟨"StageMachineModel", "trim", "(I)I"⟩ ∈ gtb := gt_in (tb_6_11 (i := 3) rfl) (by decide +kernel)
theorem wd_1380 : Cond.code ⟨"StageMachineModel", "trim", "(I)I"⟩ prog_14_method_53_code 4 (some .int) ∈ gtb := gt_in (tb_6_11 (i := 4) rfl) (by decide +kernel)
theorem wd_1381 : Cond.methodLink "StageMachineModel" 284 ⟨"StageMachineModel", "left", "(I)I"⟩ ∈ gtb := gt_in (tb_6_11 (i := 5) rfl) (by decide +kernel)
theorem wd_1383 : Cond.instanceMethod ⟨"StageMachineModel", "left", "(I)I"⟩ ∈ gtb := gt_in (tb_6_11 (i := 7) rfl) (by decide +kernel)
theorem wd_1384 : Cond.code ⟨"StageMachineModel", "left", "(I)I"⟩ prog_14_method_50_code 2 (some .int) ∈ gtb := gt_in (tb_6_11 (i := 8) rfl) (by decide +kernel)
theorem wd_1385 : Cond.methodLink "StageMachineLaw" 129 ⟨"StageMachineModel", "light", "(I)I"⟩ ∈ gtb := gt_in (tb_6_11 (i := 9) rfl) (by decide +kernel)
theorem wd_1386 : Cond.instanceMethod ⟨"StageMachineModel", "light", "(I)I"⟩ ∈ gtb := gt_in (tb_6_11 (i := 10) rfl) (by decide +kernel)
theorem wd_1387 : Cond.selects "StageMachineModel" ⟨"StageMachineModel", "light", "(I)I"⟩ ⟨"StageMachineModel", "light", "(I)I"⟩ ∈ gtb := gt_in (tb_6_11 (i := 11) rfl) (by decide +kernel)
theorem wd_1388 : Cond.code ⟨"StageMachineModel", "light", "(I)I"⟩ prog_14_method_54_code 5 (some .int) ∈ gtb := gt_in (tb_6_11 (i := 12) rfl) (by decide +kernel)
theorem wd_1389 : Cond.methodLink "StageMachineLaw" 133 ⟨"StageMachineModel", "flat", "(II)I"⟩ ∈ gtb := gt_in (tb_6_11 (i := 13) rfl) (by decide +kernel)
theorem wd_1390 : Cond.instanceMethod ⟨"StageMachineModel", "flat", "(II)I"⟩ ∈ gtb := gt_in (tb_6_11 (i := 14) rfl) (by decide +kernel)
theorem wd_1391 : Cond.selects "StageMachineModel" ⟨"StageMachineModel", "flat", "(II)I"⟩ ⟨"StageMachineModel", "flat", "(II)I"⟩ ∈ gtb := gt_in (tb_6_11 (i := 15) rfl) (by decide +kernel)
theorem wd_1392 : Cond.code ⟨"StageMachineModel", "flat", "(II)I"⟩ prog_14_method_56_code 3 (some .int) ∈ gtb := gt_in (tb_6_12 (i := 0) rfl) (by decide +kernel)
theorem wd_1393 : Cond.methodLink "StageMachineModel" 287 ⟨"StageMachineModel", "isSize", "(I)Z"⟩ ∈ gtb := gt_in (tb_6_12 (i := 1) rfl) (by decide +kernel)
theorem wd_1394 : Cond.static ⟨"StageMachineModel", "isSize", "(I)Z"⟩ ∈ gtb := gt_in (tb_6_12 (i := 2) rfl) (by decide +kernel)
theorem wd_1395 : Cond.code ⟨"StageMachineModel", "isSize", "(I)Z"⟩ prog_14_method_55_code 1 (some .boolean) ∈ gtb := gt_in (tb_6_12 (i := 3) rfl) (by decide +kernel)
theorem wd_1396 : Cond.methodLink "StageMachineLaw" 137 ⟨"StageMachineModel", "want", "(II)I"⟩ ∈ gtb := gt_in (tb_6_12 (i := 4) rfl) (by decide +kernel)
theorem wd_1397 : Cond.instanceMethod ⟨"StageMachineModel", "want", "(II)I"⟩ ∈ gtb := gt_in (tb_6_12 (i := 5) rfl) (by decide +kernel)
theorem wd_1398 : Cond.selects "StageMachineModel" ⟨"StageMachineModel", "want", "(II)I"⟩ ⟨"StageMachineModel", "want", "(II)I"⟩ ∈ gtb := gt_in (tb_6_12 (i := 6) rfl) (by decide +kernel)
theorem wd_1399 : Cond.code ⟨"StageMachineModel", "want", "(II)I"⟩ prog_14_method_57_code 3 (some .int) ∈ gtb := gt_in (tb_6_12 (i := 7) rfl) (by decide +kernel)
theorem wd_1400 : Cond.methodLink "StageMachineLaw" 141 ⟨"StageMachineModel", "paint", "()I"⟩ ∈ gtb := gt_in (tb_6_12 (i := 8) rfl) (by decide +kernel)
theorem wd_1401 : Cond.instanceMethod ⟨"StageMachineModel", "paint", "()I"⟩ ∈ gtb := gt_in (tb_6_12 (i := 9) rfl) (by decide +kernel)
theorem wd_1402 : Cond.selects "StageMachineModel" ⟨"StageMachineModel", "paint", "()I"⟩ ⟨"StageMachineModel", "paint", "()I"⟩ ∈ gtb := gt_in (tb_6_12 (i := 10) rfl) (by decide +kernel)
theorem wd_1403 : Cond.code ⟨"StageMachineModel", "paint", "()I"⟩ prog_14_method_62_code 5 (some .int) ∈ gtb := gt_in (tb_6_12 (i := 11) rfl) (by decide +kernel)
theorem wd_1404 : Cond.methodLink "StageMachineModel" 299 ⟨"StageMachineModel", "cost", "(II)I"⟩ ∈ gtb := gt_in (tb_6_12 (i := 12) rfl) (by decide +kernel)
theorem wd_1406 : Cond.instanceMethod ⟨"StageMachineModel", "cost", "(II)I"⟩ ∈ gtb := gt_in (tb_6_12 (i := 14) rfl) (by decide +kernel)
theorem wd_1407 : Cond.code ⟨"StageMachineModel", "cost", "(II)I"⟩ prog_14_method_59_code 3 (some .int) ∈ gtb := gt_in (tb_6_12 (i := 15) rfl) (by decide +kernel)
theorem wd_1408 : Cond.methodLink "StageMachineModel" 296 ⟨"StageMachineModel", "area", "(I)I"⟩ ∈ gtb := gt_in (tb_6_13 (i := 0) rfl) (by decide +kernel)
theorem wd_1409 : Cond.static ⟨"StageMachineModel", "area", "(I)I"⟩ ∈ gtb := gt_in (tb_6_13 (i := 1) rfl) (by decide +kernel)
theorem wd_1410 : Cond.code ⟨"StageMachineModel", "area", "(I)I"⟩ prog_14_method_58_code 1 (some .int) ∈ gtb := gt_in (tb_6_13 (i := 2) rfl) (by decide +kernel)
theorem wd_1411 : Cond.methodLink "StageMachineModel" 302 ⟨"StageMachineModel", "isTaken", "(I)Z"⟩ ∈ gtb := gt_in (tb_6_13 (i := 3) rfl) (by decide +kernel)
theorem wd_1413 : Cond.instanceMethod ⟨"StageMachineModel", "isTaken", "(I)Z"⟩ ∈ gtb := gt_in (tb_6_13 (i := 5) rfl) (by decide +kernel)
theorem wd_1414 : Cond.code ⟨"StageMachineModel", "isTaken", "(I)Z"⟩ prog_14_method_60_code 3 (some .boolean) ∈ gtb := gt_in (tb_6_13 (i := 6) rfl) (by decide +kernel)
theorem wd_1415 : Cond.methodLink "StageMachineModel" 305 ⟨"StageMachineModel", "costTo", "(I)I"⟩ ∈ gtb := gt_in (tb_6_13 (i := 7) rfl) (by decide +kernel)
theorem wd_1417 : Cond.instanceMethod ⟨"StageMachineModel", "costTo", "(I)I"⟩ ∈ gtb := gt_in (tb_6_13 (i := 9) rfl) (by decide +kernel)
theorem wd_1418 : Cond.code ⟨"StageMachineModel", "costTo", "(I)I"⟩ prog_14_method_61_code 4 (some .int) ∈ gtb := gt_in (tb_6_13 (i := 10) rfl) (by decide +kernel)
theorem wd_1419 : Cond.methodLink "StageMachineLaw" 145 ⟨"StageMachineModel", "given", "(I)I"⟩ ∈ gtb := gt_in (tb_6_13 (i := 11) rfl) (by decide +kernel)
theorem wd_1420 : Cond.instanceMethod ⟨"StageMachineModel", "given", "(I)I"⟩ ∈ gtb := gt_in (tb_6_13 (i := 12) rfl) (by decide +kernel)
theorem wd_1421 : Cond.selects "StageMachineModel" ⟨"StageMachineModel", "given", "(I)I"⟩ ⟨"StageMachineModel", "given", "(I)I"⟩ ∈ gtb := gt_in (tb_6_13 (i := 13) rfl) (by decide +kernel)
theorem wd_1422 : Cond.code ⟨"StageMachineModel", "given", "(I)I"⟩ prog_14_method_63_code 2 (some .int) ∈ gtb := gt_in (tb_6_13 (i := 14) rfl) (by decide +kernel)
theorem wd_1423 : Cond.methodLink "StageMachineLaw" 149 ⟨"StageMachineModel", "count", "(I)I"⟩ ∈ gtb := gt_in (tb_6_13 (i := 15) rfl) (by decide +kernel)
theorem wd_1424 : Cond.instanceMethod ⟨"StageMachineModel", "count", "(I)I"⟩ ∈ gtb := gt_in (tb_6_14 (i := 0) rfl) (by decide +kernel)
theorem wd_1425 : Cond.selects "StageMachineModel" ⟨"StageMachineModel", "count", "(I)I"⟩ ⟨"StageMachineModel", "count", "(I)I"⟩ ∈ gtb := gt_in (tb_6_14 (i := 1) rfl) (by decide +kernel)
theorem wd_1426 : Cond.code ⟨"StageMachineModel", "count", "(I)I"⟩ prog_14_method_64_code 4 (some .int) ∈ gtb := gt_in (tb_6_14 (i := 2) rfl) (by decide +kernel)
theorem wp_0 : Cond.selects "StageMachine" ⟨"StageMachine", "deed", "(IZ)I"⟩ ⟨"StageMachine", "deed", "(IZ)I"⟩ ∈ gtb := gtb_mem (i := 0) (by decide +kernel) (by decide +kernel)
theorem wp_1 : Cond.selects "StageMachine$Turning" ⟨"StageMachine$Turning", "isBeyond", "()Z"⟩ ⟨"StageMachine$Turning", "isBeyond", "()Z"⟩ ∈ gtb := gtb_mem (i := 1) (by decide +kernel) (by decide +kernel)
theorem wp_2 : Cond.selects "StageMachine$Turning" ⟨"StageMachine$Turning", "isMeeting", "()Z"⟩ ⟨"StageMachine$Turning", "isMeeting", "()Z"⟩ ∈ gtb := gtb_mem (i := 2) (by decide +kernel) (by decide +kernel)
theorem wp_3 : Cond.selects "StageMachine$Turning" ⟨"StageMachine$Turning", "isUneven", "(I)Z"⟩ ⟨"StageMachine$Turning", "isUneven", "(I)Z"⟩ ∈ gtb := gtb_mem (i := 3) (by decide +kernel) (by decide +kernel)
theorem wp_4 : Cond.selects "StageMachine$Turning" ⟨"StageMachine$Turning", "stepsToNextMove", "(II)I"⟩ ⟨"StageMachine$Turning", "stepsToNextMove", "(II)I"⟩ ∈ gtb := gtb_mem (i := 4) (by decide +kernel) (by decide +kernel)
theorem wp_5 : Cond.selects "StageMachine$Stage" ⟨"StageMachine$Stage", "fall", "(LStageMachine$Thing;II)I"⟩ ⟨"StageMachine$Stage", "fall", "(LStageMachine$Thing;II)I"⟩ ∈ gtb := gtb_mem (i := 5) (by decide +kernel) (by decide +kernel)
theorem wp_6 : Cond.selects "StageMachine$Stage" ⟨"StageMachine$Stage", "canFall", "(LStageMachine$Thing;I)Z"⟩ ⟨"StageMachine$Stage", "canFall", "(LStageMachine$Thing;I)Z"⟩ ∈ gtb := gtb_mem (i := 6) (by decide +kernel) (by decide +kernel)
theorem wp_7 : Cond.selects "StageMachine$Stage" ⟨"StageMachine$Stage", "isCatch", "(II)Z"⟩ ⟨"StageMachine$Stage", "isCatch", "(II)Z"⟩ ∈ gtb := gtb_mem (i := 7) (by decide +kernel) (by decide +kernel)
theorem wp_8 : Cond.selects "StageMachine$Change" ⟨"StageMachine$Change", "findTie", "(LStageMachine$Thing;II)Z"⟩ ⟨"StageMachine$Change", "findTie", "(LStageMachine$Thing;II)Z"⟩ ∈ gtb := gtb_mem (i := 8) (by decide +kernel) (by decide +kernel)
theorem wp_9 : Cond.selects "StageMachine$Change" ⟨"StageMachine$Change", "findDrum", "(LStageMachine$Rope;II)I"⟩ ⟨"StageMachine$Change", "findDrum", "(LStageMachine$Rope;II)I"⟩ ∈ gtb := gtb_mem (i := 9) (by decide +kernel) (by decide +kernel)
theorem wp_10 : Cond.selects "StageMachine$Change" ⟨"StageMachine$Change", "countWorks", "()V"⟩ ⟨"StageMachine$Change", "countWorks", "()V"⟩ ∈ gtb := gtb_mem (i := 10) (by decide +kernel) (by decide +kernel)
theorem wp_11 : Cond.selects "StageMachine$Change" ⟨"StageMachine$Change", "isReady", "(LStageMachine$Rope;I)Z"⟩ ⟨"StageMachine$Change", "isReady", "(LStageMachine$Rope;I)Z"⟩ ∈ gtb := gtb_mem (i := 11) (by decide +kernel) (by decide +kernel)
theorem wp_12 : Cond.selects "StageMachine$Change" ⟨"StageMachine$Change", "works", "()I"⟩ ⟨"StageMachine$Change", "works", "()I"⟩ ∈ gtb := gtb_mem (i := 12) (by decide +kernel) (by decide +kernel)
theorem wp_13 : Cond.selects "StageMachine$Change" ⟨"StageMachine$Change", "longestWork", "()I"⟩ ⟨"StageMachine$Change", "longestWork", "()I"⟩ ∈ gtb := gtb_mem (i := 13) (by decide +kernel) (by decide +kernel)
theorem wp_14 : Cond.selects "StageMachine$Change" ⟨"StageMachine$Change", "shareOut", "(I)I"⟩ ⟨"StageMachine$Change", "shareOut", "(I)I"⟩ ∈ gtb := gtb_mem (i := 14) (by decide +kernel) (by decide +kernel)
theorem wp_15 : Cond.selects "StageMachine$Change" ⟨"StageMachine$Change", "leastShare", "(IIII)I"⟩ ⟨"StageMachine$Change", "leastShare", "(IIII)I"⟩ ∈ gtb := gtb_mem (i := 15) (by decide +kernel) (by decide +kernel)
theorem wp_16 : Cond.selects "StageMachine$Change" ⟨"StageMachine$Change", "slot", "(III)I"⟩ ⟨"StageMachine$Change", "slot", "(III)I"⟩ ∈ gtb := gtb_mem (i := 16) (by decide +kernel) (by decide +kernel)
theorem wp_17 : Cond.selects "StageMachine$Change" ⟨"StageMachine$Change", "withWork", "(III)I"⟩ ⟨"StageMachine$Change", "withWork", "(III)I"⟩ ∈ gtb := gtb_mem (i := 17) (by decide +kernel) (by decide +kernel)
theorem wp_18 : Cond.selects "StageMachine$Tape" ⟨"StageMachine$Tape", "readLine", "(I)Z"⟩ ⟨"StageMachine$Tape", "readLine", "(I)Z"⟩ ∈ gtb := gtb_mem (i := 18) (by decide +kernel) (by decide +kernel)
theorem wp_19 : Cond.selects "StageMachine$Tape" ⟨"StageMachine$Tape", "peek", "()I"⟩ ⟨"StageMachine$Tape", "peek", "()I"⟩ ∈ gtb := gtb_mem (i := 19) (by decide +kernel) (by decide +kernel)
theorem wp_20 : Cond.selects "StageMachine$Tape" ⟨"StageMachine$Tape", "readTwo", "(IZ)Z"⟩ ⟨"StageMachine$Tape", "readTwo", "(IZ)Z"⟩ ∈ gtb := gtb_mem (i := 20) (by decide +kernel) (by decide +kernel)
theorem wp_21 : Cond.selects "StageMachine$Tape" ⟨"StageMachine$Tape", "readNumber", "(Z)Z"⟩ ⟨"StageMachine$Tape", "readNumber", "(Z)Z"⟩ ∈ gtb := gtb_mem (i := 21) (by decide +kernel) (by decide +kernel)
theorem wp_22 : Cond.selects "StageMachine$Tape" ⟨"StageMachine$Tape", "readSign", "(I)Z"⟩ ⟨"StageMachine$Tape", "readSign", "(I)Z"⟩ ∈ gtb := gtb_mem (i := 22) (by decide +kernel) (by decide +kernel)
theorem wp_23 : Cond.selects "StageMachine$Tape" ⟨"StageMachine$Tape", "readOne", "(IZ)Z"⟩ ⟨"StageMachine$Tape", "readOne", "(IZ)Z"⟩ ∈ gtb := gtb_mem (i := 23) (by decide +kernel) (by decide +kernel)
theorem wp_24 : Cond.selects "StageMachine" ⟨"StageMachine", "playLine", "(I)I"⟩ ⟨"StageMachine", "playLine", "(I)I"⟩ ∈ gtb := gtb_mem (i := 24) (by decide +kernel) (by decide +kernel)
theorem wp_25 : Cond.selects "StageMachine$Candles" ⟨"StageMachine$Candles", "burning", "()I"⟩ ⟨"StageMachine$Candles", "burning", "()I"⟩ ∈ gtb := gtb_mem (i := 25) (by decide +kernel) (by decide +kernel)
theorem wp_26 : Cond.selects "StageMachine$Candles" ⟨"StageMachine$Candles", "leastLeft", "()I"⟩ ⟨"StageMachine$Candles", "leastLeft", "()I"⟩ ∈ gtb := gtb_mem (i := 26) (by decide +kernel) (by decide +kernel)
theorem wp_27 : Cond.selects "StageMachine$Stock" ⟨"StageMachine$Stock", "leastSum", "()I"⟩ ⟨"StageMachine$Stock", "leastSum", "()I"⟩ ∈ gtb := gtb_mem (i := 27) (by decide +kernel) (by decide +kernel)
theorem wp_28 : Cond.selects "StageMachine$Stock" ⟨"StageMachine$Stock", "leastSumBehind", "(ILStageMachine$Panel;)I"⟩ ⟨"StageMachine$Stock", "leastSumBehind", "(ILStageMachine$Panel;)I"⟩ ∈ gtb := gtb_mem (i := 28) (by decide +kernel) (by decide +kernel)
theorem wp_29 : Cond.selects "StageMachine$Stock" ⟨"StageMachine$Stock", "sumWith", "(IILStageMachine$Panel;)I"⟩ ⟨"StageMachine$Stock", "sumWith", "(IILStageMachine$Panel;)I"⟩ ∈ gtb := gtb_mem (i := 29) (by decide +kernel) (by decide +kernel)
theorem wp_30 : Cond.selects "StageMachine$Stock" ⟨"StageMachine$Stock", "give", "()V"⟩ ⟨"StageMachine$Stock", "give", "()V"⟩ ∈ gtb := gtb_mem (i := 30) (by decide +kernel) (by decide +kernel)
theorem wp_31 : Cond.selects "StageMachineModel" ⟨"StageMachineModel", "isThing", "(I)Z"⟩ ⟨"StageMachineModel", "isThing", "(I)Z"⟩ ∈ gtb := gtb_mem (i := 31) (by decide +kernel) (by decide +kernel)
theorem wp_32 : Cond.selects "StageMachineModel" ⟨"StageMachineModel", "tiedTo", "(I)I"⟩ ⟨"StageMachineModel", "tiedTo", "(I)I"⟩ ∈ gtb := gtb_mem (i := 32) (by decide +kernel) (by decide +kernel)
theorem wp_33 : Cond.selects "StageMachineModel" ⟨"StageMachineModel", "isRope", "(I)Z"⟩ ⟨"StageMachineModel", "isRope", "(I)Z"⟩ ∈ gtb := gtb_mem (i := 33) (by decide +kernel) (by decide +kernel)
theorem wp_34 : Cond.selects "StageMachineModel" ⟨"StageMachineModel", "load", "(I)I"⟩ ⟨"StageMachineModel", "load", "(I)I"⟩ ∈ gtb := gtb_mem (i := 34) (by decide +kernel) (by decide +kernel)
theorem wp_35 : Cond.selects "StageMachineModel" ⟨"StageMachineModel", "tieNow", "(II)I"⟩ ⟨"StageMachineModel", "tieNow", "(II)I"⟩ ∈ gtb := gtb_mem (i := 35) (by decide +kernel) (by decide +kernel)
theorem wp_36 : Cond.selects "StageMachineModel" ⟨"StageMachineModel", "isDrum", "(I)Z"⟩ ⟨"StageMachineModel", "isDrum", "(I)Z"⟩ ∈ gtb := gtb_mem (i := 36) (by decide +kernel) (by decide +kernel)
theorem wp_37 : Cond.selects "StageMachineModel" ⟨"StageMachineModel", "untieNow", "(I)I"⟩ ⟨"StageMachineModel", "untieNow", "(I)I"⟩ ∈ gtb := gtb_mem (i := 37) (by decide +kernel) (by decide +kernel)
theorem wp_38 : Cond.selects "StageMachineModel" ⟨"StageMachineModel", "weighNow", "(II)I"⟩ ⟨"StageMachineModel", "weighNow", "(II)I"⟩ ∈ gtb := gtb_mem (i := 38) (by decide +kernel) (by decide +kernel)
theorem wp_39 : Cond.selects "StageMachineModel" ⟨"StageMachineModel", "turnNow", "(I)I"⟩ ⟨"StageMachineModel", "turnNow", "(I)I"⟩ ∈ gtb := gtb_mem (i := 39) (by decide +kernel) (by decide +kernel)
theorem wp_40 : Cond.selects "StageMachineModel" ⟨"StageMachineModel", "place", "(I)V"⟩ ⟨"StageMachineModel", "place", "(I)V"⟩ ∈ gtb := gtb_mem (i := 40) (by decide +kernel) (by decide +kernel)
theorem wp_41 : Cond.selects "StageMachineModel" ⟨"StageMachineModel", "find", "()V"⟩ ⟨"StageMachineModel", "find", "()V"⟩ ∈ gtb := gtb_mem (i := 41) (by decide +kernel) (by decide +kernel)
theorem wp_42 : Cond.selects "StageMachineModel" ⟨"StageMachineModel", "other", "(II)I"⟩ ⟨"StageMachineModel", "other", "(II)I"⟩ ∈ gtb := gtb_mem (i := 42) (by decide +kernel) (by decide +kernel)
theorem wp_43 : Cond.selects "StageMachineModel" ⟨"StageMachineModel", "meets", "(III)Z"⟩ ⟨"StageMachineModel", "meets", "(III)Z"⟩ ∈ gtb := gtb_mem (i := 43) (by decide +kernel) (by decide +kernel)
theorem wp_44 : Cond.selects "StageMachineModel" ⟨"StageMachineModel", "isCaught", "(II)Z"⟩ ⟨"StageMachineModel", "isCaught", "(II)Z"⟩ ∈ gtb := gtb_mem (i := 44) (by decide +kernel) (by decide +kernel)
theorem wp_45 : Cond.selects "StageMachineModel" ⟨"StageMachineModel", "brings", "(III)Z"⟩ ⟨"StageMachineModel", "brings", "(III)Z"⟩ ∈ gtb := gtb_mem (i := 45) (by decide +kernel) (by decide +kernel)
theorem wp_46 : Cond.selects "StageMachineModel" ⟨"StageMachineModel", "workOf", "(I)I"⟩ ⟨"StageMachineModel", "workOf", "(I)I"⟩ ∈ gtb := gtb_mem (i := 46) (by decide +kernel) (by decide +kernel)
theorem wp_47 : Cond.selects "StageMachineModel" ⟨"StageMachineModel", "menFor", "(IIII)I"⟩ ⟨"StageMachineModel", "menFor", "(IIII)I"⟩ ∈ gtb := gtb_mem (i := 47) (by decide +kernel) (by decide +kernel)
theorem wp_48 : Cond.selects "StageMachineModel" ⟨"StageMachineModel", "line", "()Z"⟩ ⟨"StageMachineModel", "line", "()Z"⟩ ∈ gtb := gtb_mem (i := 48) (by decide +kernel) (by decide +kernel)
theorem wp_49 : Cond.selects "StageMachineModel" ⟨"StageMachineModel", "look", "()I"⟩ ⟨"StageMachineModel", "look", "()I"⟩ ∈ gtb := gtb_mem (i := 49) (by decide +kernel) (by decide +kernel)
theorem wp_50 : Cond.selects "StageMachineModel" ⟨"StageMachineModel", "takes", "(Z)Z"⟩ ⟨"StageMachineModel", "takes", "(Z)Z"⟩ ∈ gtb := gtb_mem (i := 50) (by decide +kernel) (by decide +kernel)
theorem wp_51 : Cond.selects "StageMachineModel" ⟨"StageMachineModel", "keep", "()V"⟩ ⟨"StageMachineModel", "keep", "()V"⟩ ∈ gtb := gtb_mem (i := 51) (by decide +kernel) (by decide +kernel)
theorem wp_52 : Cond.selects "StageMachineModel" ⟨"StageMachineModel", "left", "(I)I"⟩ ⟨"StageMachineModel", "left", "(I)I"⟩ ∈ gtb := gtb_mem (i := 52) (by decide +kernel) (by decide +kernel)
theorem wp_53 : Cond.selects "StageMachineModel" ⟨"StageMachineModel", "cost", "(II)I"⟩ ⟨"StageMachineModel", "cost", "(II)I"⟩ ∈ gtb := gtb_mem (i := 53) (by decide +kernel) (by decide +kernel)
theorem wp_54 : Cond.selects "StageMachineModel" ⟨"StageMachineModel", "isTaken", "(I)Z"⟩ ⟨"StageMachineModel", "isTaken", "(I)Z"⟩ ∈ gtb := gtb_mem (i := 54) (by decide +kernel) (by decide +kernel)
theorem wp_55 : Cond.selects "StageMachineModel" ⟨"StageMachineModel", "costTo", "(I)I"⟩ ⟨"StageMachineModel", "costTo", "(I)I"⟩ ∈ gtb := gtb_mem (i := 55) (by decide +kernel) (by decide +kernel)
theorem fc_of {c : Nat} {C : String} {T : u_T} {N : Nat} {ty : Nat → FieldType} (h1 : cls13[c]? = some (C, T, N)) (h2 : ∀ w ∈ u_ws C T N, w ∈ lw_tbl) (h2b : (u_ws C T N).all goodWord = true) (h3 : ∀ k, k < N → parseFieldDescriptor (T k).2.2.1 = some (ty k)) (h4 : ∀ a, a < N → ∀ b, b < N → a ≠ b → (T a).2.1 ≠ (T b).2.1) (h5 : nF c = N) (h6 : c < 13) (h7 : tyOf c = ty) : FC c C T N ty := ⟨h1, fun w hw => List.mem_filter.mpr ⟨h2 w hw, List.all_eq_true.mp h2b w hw⟩, h3, h4, h5, h6, h7⟩
set_option maxRecDepth 30000 in
theorem fm_0 : ∀ w ∈ u_ws RX0 TX0 4, w ∈ lw_tbl := by
  show ∀ w ∈ [u_lay RX0 TX0 0, u_lay RX0 TX0 1, u_lay RX0 TX0 2, u_lay RX0 TX0 3], w ∈ lw_tbl
  exact List.forall_mem_cons.mpr ⟨ti_in (tb_1_4 (i := 11) rfl), List.forall_mem_cons.mpr ⟨ti_in (tb_1_4 (i := 13) rfl), List.forall_mem_cons.mpr ⟨ti_in (tb_1_4 (i := 15) rfl), List.forall_mem_cons.mpr ⟨ti_in (tb_1_5 (i := 1) rfl), fun w hw => absurd hw List.not_mem_nil⟩⟩⟩⟩
theorem fc_0 : FC 0 RX0 TX0 4 tyX0 := fc_of rfl fm_0 (by decide +kernel) tyX0_ok nmX0 rfl (by decide) rfl
set_option maxRecDepth 30000 in
theorem fm_1 : ∀ w ∈ u_ws RX1 TX1 9, w ∈ lw_tbl := by
  show ∀ w ∈ [u_lay RX1 TX1 0, u_lay RX1 TX1 1, u_lay RX1 TX1 2, u_lay RX1 TX1 3, u_lay RX1 TX1 4, u_lay RX1 TX1 5, u_lay RX1 TX1 6, u_lay RX1 TX1 7, u_lay RX1 TX1 8], w ∈ lw_tbl
  exact List.forall_mem_cons.mpr ⟨ti_in (tb_2_0 (i := 1) rfl), List.forall_mem_cons.mpr ⟨ti_in (tb_2_0 (i := 3) rfl), List.forall_mem_cons.mpr ⟨ti_in (tb_2_0 (i := 5) rfl), List.forall_mem_cons.mpr ⟨ti_in (tb_2_0 (i := 7) rfl), List.forall_mem_cons.mpr ⟨ti_in (tb_2_0 (i := 9) rfl), List.forall_mem_cons.mpr ⟨ti_in (tb_2_0 (i := 11) rfl), List.forall_mem_cons.mpr ⟨ti_in (tb_2_0 (i := 13) rfl), List.forall_mem_cons.mpr ⟨ti_in (tb_2_0 (i := 15) rfl), List.forall_mem_cons.mpr ⟨ti_in (tb_2_1 (i := 1) rfl), fun w hw => absurd hw List.not_mem_nil⟩⟩⟩⟩⟩⟩⟩⟩⟩
theorem fc_1 : FC 1 RX1 TX1 9 tyX1 := fc_of rfl fm_1 (by decide +kernel) tyX1_ok nmX1 rfl (by decide) rfl
set_option maxRecDepth 30000 in
theorem fm_2 : ∀ w ∈ u_ws RX2 TX2 2, w ∈ lw_tbl := by
  show ∀ w ∈ [u_lay RX2 TX2 0, u_lay RX2 TX2 1], w ∈ lw_tbl
  exact List.forall_mem_cons.mpr ⟨ti_in (tb_2_10 (i := 11) rfl), List.forall_mem_cons.mpr ⟨ti_in (tb_2_10 (i := 13) rfl), fun w hw => absurd hw List.not_mem_nil⟩⟩
theorem fc_2 : FC 2 RX2 TX2 2 tyX2 := fc_of rfl fm_2 (by decide +kernel) tyX2_ok nmX2 rfl (by decide) rfl
set_option maxRecDepth 30000 in
theorem fm_3 : ∀ w ∈ u_ws RX3 TX3 3, w ∈ lw_tbl := by
  show ∀ w ∈ [u_lay RX3 TX3 0, u_lay RX3 TX3 1, u_lay RX3 TX3 2], w ∈ lw_tbl
  exact List.forall_mem_cons.mpr ⟨ti_in (tb_4_11 (i := 6) rfl), List.forall_mem_cons.mpr ⟨ti_in (tb_4_11 (i := 8) rfl), List.forall_mem_cons.mpr ⟨ti_in (tb_4_11 (i := 10) rfl), fun w hw => absurd hw List.not_mem_nil⟩⟩⟩
theorem fc_3 : FC 3 RX3 TX3 3 tyX3 := fc_of rfl fm_3 (by decide +kernel) tyX3_ok nmX3 rfl (by decide) rfl
set_option maxRecDepth 30000 in
theorem fm_4 : ∀ w ∈ u_ws RX4 TX4 12, w ∈ lw_tbl := by
  show ∀ w ∈ [u_lay RX4 TX4 0, u_lay RX4 TX4 1, u_lay RX4 TX4 2, u_lay RX4 TX4 3, u_lay RX4 TX4 4, u_lay RX4 TX4 5, u_lay RX4 TX4 6, u_lay RX4 TX4 7, u_lay RX4 TX4 8, u_lay RX4 TX4 9, u_lay RX4 TX4 10, u_lay RX4 TX4 11], w ∈ lw_tbl
  exact List.forall_mem_cons.mpr ⟨ti_in (tb_2_13 (i := 7) rfl), List.forall_mem_cons.mpr ⟨ti_in (tb_2_13 (i := 9) rfl), List.forall_mem_cons.mpr ⟨ti_in (tb_2_13 (i := 11) rfl), List.forall_mem_cons.mpr ⟨ti_in (tb_2_13 (i := 13) rfl), List.forall_mem_cons.mpr ⟨ti_in (tb_2_13 (i := 15) rfl), List.forall_mem_cons.mpr ⟨ti_in (tb_2_14 (i := 1) rfl), List.forall_mem_cons.mpr ⟨ti_in (tb_2_14 (i := 3) rfl), List.forall_mem_cons.mpr ⟨ti_in (tb_2_14 (i := 5) rfl), List.forall_mem_cons.mpr ⟨ti_in (tb_2_14 (i := 7) rfl), List.forall_mem_cons.mpr ⟨ti_in (tb_2_14 (i := 9) rfl), List.forall_mem_cons.mpr ⟨ti_in (tb_2_14 (i := 11) rfl), List.forall_mem_cons.mpr ⟨ti_in (tb_2_14 (i := 13) rfl), fun w hw => absurd hw List.not_mem_nil⟩⟩⟩⟩⟩⟩⟩⟩⟩⟩⟩⟩
theorem fc_4 : FC 4 RX4 TX4 12 tyX4 := fc_of rfl fm_4 (by decide +kernel) tyX4_ok nmX4 rfl (by decide) rfl
set_option maxRecDepth 30000 in
theorem fm_5 : ∀ w ∈ u_ws RX5 TX5 15, w ∈ lw_tbl := by
  show ∀ w ∈ [u_lay RX5 TX5 0, u_lay RX5 TX5 1, u_lay RX5 TX5 2, u_lay RX5 TX5 3, u_lay RX5 TX5 4, u_lay RX5 TX5 5, u_lay RX5 TX5 6, u_lay RX5 TX5 7, u_lay RX5 TX5 8, u_lay RX5 TX5 9, u_lay RX5 TX5 10, u_lay RX5 TX5 11, u_lay RX5 TX5 12, u_lay RX5 TX5 13, u_lay RX5 TX5 14], w ∈ lw_tbl
  exact List.forall_mem_cons.mpr ⟨ti_in (tb_1_9 (i := 15) rfl), List.forall_mem_cons.mpr ⟨ti_in (tb_1_10 (i := 1) rfl), List.forall_mem_cons.mpr ⟨ti_in (tb_1_10 (i := 3) rfl), List.forall_mem_cons.mpr ⟨ti_in (tb_1_10 (i := 5) rfl), List.forall_mem_cons.mpr ⟨ti_in (tb_1_10 (i := 7) rfl), List.forall_mem_cons.mpr ⟨ti_in (tb_1_10 (i := 9) rfl), List.forall_mem_cons.mpr ⟨ti_in (tb_1_10 (i := 11) rfl), List.forall_mem_cons.mpr ⟨ti_in (tb_1_10 (i := 13) rfl), List.forall_mem_cons.mpr ⟨ti_in (tb_1_10 (i := 15) rfl), List.forall_mem_cons.mpr ⟨ti_in (tb_1_11 (i := 1) rfl), List.forall_mem_cons.mpr ⟨ti_in (tb_1_11 (i := 3) rfl), List.forall_mem_cons.mpr ⟨ti_in (tb_1_11 (i := 5) rfl), List.forall_mem_cons.mpr ⟨ti_in (tb_1_11 (i := 7) rfl), List.forall_mem_cons.mpr ⟨ti_in (tb_1_11 (i := 9) rfl), List.forall_mem_cons.mpr ⟨ti_in (tb_1_11 (i := 11) rfl), fun w hw => absurd hw List.not_mem_nil⟩⟩⟩⟩⟩⟩⟩⟩⟩⟩⟩⟩⟩⟩⟩
theorem fc_5 : FC 5 RX5 TX5 15 tyX5 := fc_of rfl fm_5 (by decide +kernel) tyX5_ok nmX5 rfl (by decide) rfl
set_option maxRecDepth 30000 in
theorem fm_6 : ∀ w ∈ u_ws RX6 TX6 7, w ∈ lw_tbl := by
  show ∀ w ∈ [u_lay RX6 TX6 0, u_lay RX6 TX6 1, u_lay RX6 TX6 2, u_lay RX6 TX6 3, u_lay RX6 TX6 4, u_lay RX6 TX6 5, u_lay RX6 TX6 6], w ∈ lw_tbl
  exact List.forall_mem_cons.mpr ⟨ti_in (tb_1_6 (i := 4) rfl), List.forall_mem_cons.mpr ⟨ti_in (tb_1_6 (i := 6) rfl), List.forall_mem_cons.mpr ⟨ti_in (tb_1_6 (i := 8) rfl), List.forall_mem_cons.mpr ⟨ti_in (tb_1_6 (i := 10) rfl), List.forall_mem_cons.mpr ⟨ti_in (tb_1_6 (i := 12) rfl), List.forall_mem_cons.mpr ⟨ti_in (tb_1_6 (i := 14) rfl), List.forall_mem_cons.mpr ⟨ti_in (tb_1_7 (i := 0) rfl), fun w hw => absurd hw List.not_mem_nil⟩⟩⟩⟩⟩⟩⟩
theorem fc_6 : FC 6 RX6 TX6 7 tyX6 := fc_of rfl fm_6 (by decide +kernel) tyX6_ok nmX6 rfl (by decide) rfl
set_option maxRecDepth 30000 in
theorem fm_7 : ∀ w ∈ u_ws RX7 TX7 3, w ∈ lw_tbl := by
  show ∀ w ∈ [u_lay RX7 TX7 0, u_lay RX7 TX7 1, u_lay RX7 TX7 2], w ∈ lw_tbl
  exact List.forall_mem_cons.mpr ⟨ti_in (tb_1_13 (i := 0) rfl), List.forall_mem_cons.mpr ⟨ti_in (tb_1_13 (i := 2) rfl), List.forall_mem_cons.mpr ⟨ti_in (tb_1_13 (i := 4) rfl), fun w hw => absurd hw List.not_mem_nil⟩⟩⟩
theorem fc_7 : FC 7 RX7 TX7 3 tyX7 := fc_of rfl fm_7 (by decide +kernel) tyX7_ok nmX7 rfl (by decide) rfl
set_option maxRecDepth 30000 in
theorem fm_8 : ∀ w ∈ u_ws RX8 TX8 8, w ∈ lw_tbl := by
  show ∀ w ∈ [u_lay RX8 TX8 0, u_lay RX8 TX8 1, u_lay RX8 TX8 2, u_lay RX8 TX8 3, u_lay RX8 TX8 4, u_lay RX8 TX8 5, u_lay RX8 TX8 6, u_lay RX8 TX8 7], w ∈ lw_tbl
  exact List.forall_mem_cons.mpr ⟨ti_in (tb_1_2 (i := 13) rfl), List.forall_mem_cons.mpr ⟨ti_in (tb_1_2 (i := 15) rfl), List.forall_mem_cons.mpr ⟨ti_in (tb_1_3 (i := 1) rfl), List.forall_mem_cons.mpr ⟨ti_in (tb_1_3 (i := 3) rfl), List.forall_mem_cons.mpr ⟨ti_in (tb_1_3 (i := 5) rfl), List.forall_mem_cons.mpr ⟨ti_in (tb_1_3 (i := 7) rfl), List.forall_mem_cons.mpr ⟨ti_in (tb_1_3 (i := 9) rfl), List.forall_mem_cons.mpr ⟨ti_in (tb_1_3 (i := 11) rfl), fun w hw => absurd hw List.not_mem_nil⟩⟩⟩⟩⟩⟩⟩⟩
theorem fc_8 : FC 8 RX8 TX8 8 tyX8 := fc_of rfl fm_8 (by decide +kernel) tyX8_ok nmX8 rfl (by decide) rfl
set_option maxRecDepth 30000 in
theorem fm_9 : ∀ w ∈ u_ws RX9 TX9 12, w ∈ lw_tbl := by
  show ∀ w ∈ [u_lay RX9 TX9 0, u_lay RX9 TX9 1, u_lay RX9 TX9 2, u_lay RX9 TX9 3, u_lay RX9 TX9 4, u_lay RX9 TX9 5, u_lay RX9 TX9 6, u_lay RX9 TX9 7, u_lay RX9 TX9 8, u_lay RX9 TX9 9, u_lay RX9 TX9 10, u_lay RX9 TX9 11], w ∈ lw_tbl
  exact List.forall_mem_cons.mpr ⟨ti_in (tb_2_6 (i := 3) rfl), List.forall_mem_cons.mpr ⟨ti_in (tb_2_6 (i := 5) rfl), List.forall_mem_cons.mpr ⟨ti_in (tb_2_6 (i := 7) rfl), List.forall_mem_cons.mpr ⟨ti_in (tb_2_6 (i := 9) rfl), List.forall_mem_cons.mpr ⟨ti_in (tb_2_6 (i := 11) rfl), List.forall_mem_cons.mpr ⟨ti_in (tb_2_6 (i := 13) rfl), List.forall_mem_cons.mpr ⟨ti_in (tb_2_6 (i := 15) rfl), List.forall_mem_cons.mpr ⟨ti_in (tb_2_7 (i := 1) rfl), List.forall_mem_cons.mpr ⟨ti_in (tb_2_7 (i := 3) rfl), List.forall_mem_cons.mpr ⟨ti_in (tb_2_7 (i := 5) rfl), List.forall_mem_cons.mpr ⟨ti_in (tb_2_7 (i := 7) rfl), List.forall_mem_cons.mpr ⟨ti_in (tb_2_7 (i := 9) rfl), fun w hw => absurd hw List.not_mem_nil⟩⟩⟩⟩⟩⟩⟩⟩⟩⟩⟩⟩
theorem fc_9 : FC 9 RX9 TX9 12 tyX9 := fc_of rfl fm_9 (by decide +kernel) tyX9_ok nmX9 rfl (by decide) rfl
set_option maxRecDepth 30000 in
theorem fm_10 : ∀ w ∈ u_ws RX10 TX10 3, w ∈ lw_tbl := by
  show ∀ w ∈ [u_lay RX10 TX10 0, u_lay RX10 TX10 1, u_lay RX10 TX10 2], w ∈ lw_tbl
  exact List.forall_mem_cons.mpr ⟨ti_in (tb_1_13 (i := 11) rfl), List.forall_mem_cons.mpr ⟨ti_in (tb_1_13 (i := 13) rfl), List.forall_mem_cons.mpr ⟨ti_in (tb_1_13 (i := 15) rfl), fun w hw => absurd hw List.not_mem_nil⟩⟩⟩
theorem fc_10 : FC 10 RX10 TX10 3 tyX10 := fc_of rfl fm_10 (by decide +kernel) tyX10_ok nmX10 rfl (by decide) rfl
set_option maxRecDepth 30000 in
theorem fm_11 : ∀ w ∈ u_ws RX11 TX11 7, w ∈ lw_tbl := by
  show ∀ w ∈ [u_lay RX11 TX11 0, u_lay RX11 TX11 1, u_lay RX11 TX11 2, u_lay RX11 TX11 3, u_lay RX11 TX11 4, u_lay RX11 TX11 5, u_lay RX11 TX11 6], w ∈ lw_tbl
  exact List.forall_mem_cons.mpr ⟨ti_in (tb_2_1 (i := 11) rfl), List.forall_mem_cons.mpr ⟨ti_in (tb_2_1 (i := 13) rfl), List.forall_mem_cons.mpr ⟨ti_in (tb_2_1 (i := 15) rfl), List.forall_mem_cons.mpr ⟨ti_in (tb_2_2 (i := 1) rfl), List.forall_mem_cons.mpr ⟨ti_in (tb_2_2 (i := 3) rfl), List.forall_mem_cons.mpr ⟨ti_in (tb_2_2 (i := 5) rfl), List.forall_mem_cons.mpr ⟨ti_in (tb_2_2 (i := 7) rfl), fun w hw => absurd hw List.not_mem_nil⟩⟩⟩⟩⟩⟩⟩
theorem fc_11 : FC 11 RX11 TX11 7 tyX11 := fc_of rfl fm_11 (by decide +kernel) tyX11_ok nmX11 rfl (by decide) rfl
set_option maxRecDepth 30000 in
theorem fm_12 : ∀ w ∈ u_ws RX12 TX12 65, w ∈ lw_tbl := by
  show ∀ w ∈ [u_lay RX12 TX12 0, u_lay RX12 TX12 1, u_lay RX12 TX12 2, u_lay RX12 TX12 3, u_lay RX12 TX12 4, u_lay RX12 TX12 5, u_lay RX12 TX12 6, u_lay RX12 TX12 7, u_lay RX12 TX12 8, u_lay RX12 TX12 9, u_lay RX12 TX12 10, u_lay RX12 TX12 11, u_lay RX12 TX12 12, u_lay RX12 TX12 13, u_lay RX12 TX12 14, u_lay RX12 TX12 15, u_lay RX12 TX12 16, u_lay RX12 TX12 17, u_lay RX12 TX12 18, u_lay RX12 TX12 19, u_lay RX12 TX12 20, u_lay RX12 TX12 21, u_lay RX12 TX12 22, u_lay RX12 TX12 23, u_lay RX12 TX12 24, u_lay RX12 TX12 25, u_lay RX12 TX12 26, u_lay RX12 TX12 27, u_lay RX12 TX12 28, u_lay RX12 TX12 29, u_lay RX12 TX12 30, u_lay RX12 TX12 31, u_lay RX12 TX12 32, u_lay RX12 TX12 33, u_lay RX12 TX12 34, u_lay RX12 TX12 35, u_lay RX12 TX12 36, u_lay RX12 TX12 37, u_lay RX12 TX12 38, u_lay RX12 TX12 39, u_lay RX12 TX12 40, u_lay RX12 TX12 41, u_lay RX12 TX12 42, u_lay RX12 TX12 43, u_lay RX12 TX12 44, u_lay RX12 TX12 45, u_lay RX12 TX12 46, u_lay RX12 TX12 47, u_lay RX12 TX12 48, u_lay RX12 TX12 49, u_lay RX12 TX12 50, u_lay RX12 TX12 51, u_lay RX12 TX12 52, u_lay RX12 TX12 53, u_lay RX12 TX12 54, u_lay RX12 TX12 55, u_lay RX12 TX12 56, u_lay RX12 TX12 57, u_lay RX12 TX12 58, u_lay RX12 TX12 59, u_lay RX12 TX12 60, u_lay RX12 TX12 61, u_lay RX12 TX12 62, u_lay RX12 TX12 63, u_lay RX12 TX12 64], w ∈ lw_tbl
  exact List.forall_mem_cons.mpr ⟨ti_in (tb_5_5 (i := 8) rfl), List.forall_mem_cons.mpr ⟨ti_in (tb_5_5 (i := 10) rfl), List.forall_mem_cons.mpr ⟨ti_in (tb_5_5 (i := 12) rfl), List.forall_mem_cons.mpr ⟨ti_in (tb_5_5 (i := 14) rfl), List.forall_mem_cons.mpr ⟨ti_in (tb_5_6 (i := 0) rfl), List.forall_mem_cons.mpr ⟨ti_in (tb_5_6 (i := 2) rfl), List.forall_mem_cons.mpr ⟨ti_in (tb_5_6 (i := 4) rfl), List.forall_mem_cons.mpr ⟨ti_in (tb_5_6 (i := 6) rfl), List.forall_mem_cons.mpr ⟨ti_in (tb_5_6 (i := 8) rfl), List.forall_mem_cons.mpr ⟨ti_in (tb_5_6 (i := 10) rfl), List.forall_mem_cons.mpr ⟨ti_in (tb_5_6 (i := 12) rfl), List.forall_mem_cons.mpr ⟨ti_in (tb_5_6 (i := 14) rfl), List.forall_mem_cons.mpr ⟨ti_in (tb_5_7 (i := 0) rfl), List.forall_mem_cons.mpr ⟨ti_in (tb_5_7 (i := 2) rfl), List.forall_mem_cons.mpr ⟨ti_in (tb_5_7 (i := 4) rfl), List.forall_mem_cons.mpr ⟨ti_in (tb_5_7 (i := 6) rfl), List.forall_mem_cons.mpr ⟨ti_in (tb_5_7 (i := 8) rfl), List.forall_mem_cons.mpr ⟨ti_in (tb_5_7 (i := 10) rfl), List.forall_mem_cons.mpr ⟨ti_in (tb_5_7 (i := 12) rfl), List.forall_mem_cons.mpr ⟨ti_in (tb_5_7 (i := 14) rfl), List.forall_mem_cons.mpr ⟨ti_in (tb_5_8 (i := 0) rfl), List.forall_mem_cons.mpr ⟨ti_in (tb_5_8 (i := 2) rfl), List.forall_mem_cons.mpr ⟨ti_in (tb_5_8 (i := 4) rfl), List.forall_mem_cons.mpr ⟨ti_in (tb_5_8 (i := 6) rfl), List.forall_mem_cons.mpr ⟨ti_in (tb_5_8 (i := 8) rfl), List.forall_mem_cons.mpr ⟨ti_in (tb_5_8 (i := 10) rfl), List.forall_mem_cons.mpr ⟨ti_in (tb_5_8 (i := 12) rfl), List.forall_mem_cons.mpr ⟨ti_in (tb_5_8 (i := 14) rfl), List.forall_mem_cons.mpr ⟨ti_in (tb_5_9 (i := 0) rfl), List.forall_mem_cons.mpr ⟨ti_in (tb_5_9 (i := 2) rfl), List.forall_mem_cons.mpr ⟨ti_in (tb_5_9 (i := 4) rfl), List.forall_mem_cons.mpr ⟨ti_in (tb_5_9 (i := 6) rfl), List.forall_mem_cons.mpr ⟨ti_in (tb_5_9 (i := 8) rfl), List.forall_mem_cons.mpr ⟨ti_in (tb_5_9 (i := 10) rfl), List.forall_mem_cons.mpr ⟨ti_in (tb_5_9 (i := 12) rfl), List.forall_mem_cons.mpr ⟨ti_in (tb_5_9 (i := 14) rfl), List.forall_mem_cons.mpr ⟨ti_in (tb_5_10 (i := 0) rfl), List.forall_mem_cons.mpr ⟨ti_in (tb_5_10 (i := 2) rfl), List.forall_mem_cons.mpr ⟨ti_in (tb_5_10 (i := 4) rfl), List.forall_mem_cons.mpr ⟨ti_in (tb_5_10 (i := 6) rfl), List.forall_mem_cons.mpr ⟨ti_in (tb_5_10 (i := 8) rfl), List.forall_mem_cons.mpr ⟨ti_in (tb_5_10 (i := 10) rfl), List.forall_mem_cons.mpr ⟨ti_in (tb_5_10 (i := 12) rfl), List.forall_mem_cons.mpr ⟨ti_in (tb_5_10 (i := 14) rfl), List.forall_mem_cons.mpr ⟨ti_in (tb_5_11 (i := 0) rfl), List.forall_mem_cons.mpr ⟨ti_in (tb_5_11 (i := 2) rfl), List.forall_mem_cons.mpr ⟨ti_in (tb_5_11 (i := 4) rfl), List.forall_mem_cons.mpr ⟨ti_in (tb_5_11 (i := 6) rfl), List.forall_mem_cons.mpr ⟨ti_in (tb_5_11 (i := 8) rfl), List.forall_mem_cons.mpr ⟨ti_in (tb_5_11 (i := 10) rfl), List.forall_mem_cons.mpr ⟨ti_in (tb_5_11 (i := 12) rfl), List.forall_mem_cons.mpr ⟨ti_in (tb_5_11 (i := 14) rfl), List.forall_mem_cons.mpr ⟨ti_in (tb_5_12 (i := 0) rfl), List.forall_mem_cons.mpr ⟨ti_in (tb_5_12 (i := 2) rfl), List.forall_mem_cons.mpr ⟨ti_in (tb_5_12 (i := 4) rfl), List.forall_mem_cons.mpr ⟨ti_in (tb_5_12 (i := 6) rfl), List.forall_mem_cons.mpr ⟨ti_in (tb_5_12 (i := 8) rfl), List.forall_mem_cons.mpr ⟨ti_in (tb_5_12 (i := 10) rfl), List.forall_mem_cons.mpr ⟨ti_in (tb_5_12 (i := 12) rfl), List.forall_mem_cons.mpr ⟨ti_in (tb_5_12 (i := 14) rfl), List.forall_mem_cons.mpr ⟨ti_in (tb_5_13 (i := 0) rfl), List.forall_mem_cons.mpr ⟨ti_in (tb_5_13 (i := 2) rfl), List.forall_mem_cons.mpr ⟨ti_in (tb_5_13 (i := 4) rfl), List.forall_mem_cons.mpr ⟨ti_in (tb_5_13 (i := 6) rfl), List.forall_mem_cons.mpr ⟨ti_in (tb_5_13 (i := 8) rfl), fun w hw => absurd hw List.not_mem_nil⟩⟩⟩⟩⟩⟩⟩⟩⟩⟩⟩⟩⟩⟩⟩⟩⟩⟩⟩⟩⟩⟩⟩⟩⟩⟩⟩⟩⟩⟩⟩⟩⟩⟩⟩⟩⟩⟩⟩⟩⟩⟩⟩⟩⟩⟩⟩⟩⟩⟩⟩⟩⟩⟩⟩⟩⟩⟩⟩⟩⟩⟩⟩⟩⟩
theorem fc_12 : FC 12 RX12 TX12 65 tyX12 := fc_of rfl fm_12 (by decide +kernel) tyX12_ok nmX12 rfl (by decide) rfl
theorem fl_X11_10 : FL RX11 10 11 3 := ⟨_, _, _, _, fc_11, by decide, wd_263⟩
theorem fl_X11_19 : FL RX11 19 11 4 := ⟨_, _, _, _, fc_11, by decide, wd_264⟩
theorem fl_X11_26 : FL RX11 26 11 5 := ⟨_, _, _, _, fc_11, by decide, wd_265⟩
theorem fl_X11_33 : FL RX11 33 11 0 := ⟨_, _, _, _, fc_11, by decide, wd_260⟩
theorem fl_X11_42 : FL RX11 42 11 1 := ⟨_, _, _, _, fc_11, by decide, wd_261⟩
theorem fl_X11_49 : FL RX11 49 11 2 := ⟨_, _, _, _, fc_11, by decide, wd_262⟩
theorem fl_X11_113 : FL RX11 113 10 1 := ⟨_, _, _, _, fc_10, by decide, wd_217⟩
theorem fl_X11_150 : FL RX11 150 8 4 := ⟨_, _, _, _, fc_8, by decide, wd_40⟩
theorem fl_X11_157 : FL RX11 157 11 6 := ⟨_, _, _, _, fc_11, by decide, wd_266⟩
theorem fl_X11_161 : FL RX11 161 8 5 := ⟨_, _, _, _, fc_8, by decide, wd_42⟩
theorem fl_X11_192 : FL RX11 192 5 7 := ⟨_, _, _, _, fc_5, by decide, wd_143⟩
theorem fl_X11_195 : FL RX11 195 5 8 := ⟨_, _, _, _, fc_5, by decide, wd_146⟩
theorem fl_X11_198 : FL RX11 198 5 9 := ⟨_, _, _, _, fc_5, by decide, wd_150⟩
theorem fl_X11_204 : FL RX11 204 5 11 := ⟨_, _, _, _, fc_5, by decide, wd_154⟩
theorem fl_X11_207 : FL RX11 207 0 3 := ⟨_, _, _, _, fc_0, by decide, wd_74⟩
theorem fl_X11_210 : FL RX11 210 0 2 := ⟨_, _, _, _, fc_0, by decide, wd_72⟩
theorem fl_X11_213 : FL RX11 213 6 4 := ⟨_, _, _, _, fc_6, by decide, wd_97⟩
theorem fl_X11_216 : FL RX11 216 5 12 := ⟨_, _, _, _, fc_5, by decide, wd_156⟩
theorem fl_X11_219 : FL RX11 219 8 2 := ⟨_, _, _, _, fc_8, by decide, wd_36⟩
theorem fl_X11_223 : FL RX11 223 8 3 := ⟨_, _, _, _, fc_8, by decide, wd_38⟩
theorem fl_X11_226 : FL RX11 226 8 1 := ⟨_, _, _, _, fc_8, by decide, wd_34⟩
theorem fl_X0_9 : FL RX0 9 0 0 := ⟨_, _, _, _, fc_0, by decide, wd_69⟩
theorem fl_X0_15 : FL RX0 15 0 1 := ⟨_, _, _, _, fc_0, by decide, wd_70⟩
theorem fl_X0_22 : FL RX0 22 0 2 := ⟨_, _, _, _, fc_0, by decide, wd_71⟩
theorem fl_X0_26 : FL RX0 26 0 3 := ⟨_, _, _, _, fc_0, by decide, wd_73⟩
theorem fl_X1_9 : FL RX1 9 1 1 := ⟨_, _, _, _, fc_1, by decide, wd_233⟩
theorem fl_X1_15 : FL RX1 15 1 2 := ⟨_, _, _, _, fc_1, by decide, wd_234⟩
theorem fl_X1_18 : FL RX1 18 1 3 := ⟨_, _, _, _, fc_1, by decide, wd_235⟩
theorem fl_X1_21 : FL RX1 21 1 0 := ⟨_, _, _, _, fc_1, by decide, wd_232⟩
theorem fl_X1_33 : FL RX1 33 1 4 := ⟨_, _, _, _, fc_1, by decide, wd_236⟩
theorem fl_X1_37 : FL RX1 37 1 5 := ⟨_, _, _, _, fc_1, by decide, wd_237⟩
theorem fl_X1_46 : FL RX1 46 5 7 := ⟨_, _, _, _, fc_5, by decide, wd_141⟩
theorem fl_X1_52 : FL RX1 52 5 0 := ⟨_, _, _, _, fc_5, by decide, wd_129⟩
theorem fl_X1_56 : FL RX1 56 9 6 := ⟨_, _, _, _, fc_9, by decide, wd_325⟩
theorem fl_X1_61 : FL RX1 61 9 7 := ⟨_, _, _, _, fc_9, by decide, wd_327⟩
theorem fl_X1_71 : FL RX1 71 5 9 := ⟨_, _, _, _, fc_5, by decide, wd_147⟩
theorem fl_X1_74 : FL RX1 74 5 2 := ⟨_, _, _, _, fc_5, by decide, wd_134⟩
theorem fl_X1_77 : FL RX1 77 4 1 := ⟨_, _, _, _, fc_4, by decide, wd_434⟩
theorem fl_X1_83 : FL RX1 83 4 8 := ⟨_, _, _, _, fc_4, by decide, wd_450⟩
theorem fl_X1_94 : FL RX1 94 9 0 := ⟨_, _, _, _, fc_9, by decide, wd_313⟩
theorem fl_X1_97 : FL RX1 97 5 8 := ⟨_, _, _, _, fc_5, by decide, wd_145⟩
theorem fl_X1_100 : FL RX1 100 5 1 := ⟨_, _, _, _, fc_5, by decide, wd_132⟩
theorem fl_X1_103 : FL RX1 103 2 1 := ⟨_, _, _, _, fc_2, by decide, wd_409⟩
theorem fl_X1_112 : FL RX1 112 1 6 := ⟨_, _, _, _, fc_1, by decide, wd_238⟩
theorem fl_X1_115 : FL RX1 115 1 7 := ⟨_, _, _, _, fc_1, by decide, wd_239⟩
theorem fl_X1_118 : FL RX1 118 1 8 := ⟨_, _, _, _, fc_1, by decide, wd_240⟩
theorem fl_X1_121 : FL RX1 121 9 9 := ⟨_, _, _, _, fc_9, by decide, wd_334⟩
theorem fl_X1_129 : FL RX1 129 4 0 := ⟨_, _, _, _, fc_4, by decide, wd_432⟩
theorem fl_X1_130 : FL RX1 130 4 7 := ⟨_, _, _, _, fc_4, by decide, wd_447⟩
theorem fl_X1_133 : FL RX1 133 4 5 := ⟨_, _, _, _, fc_4, by decide, wd_441⟩
theorem fl_X1_137 : FL RX1 137 2 0 := ⟨_, _, _, _, fc_2, by decide, wd_407⟩
theorem fl_X2_7 : FL RX2 7 2 0 := ⟨_, _, _, _, fc_2, by decide, wd_405⟩
theorem fl_X2_13 : FL RX2 13 2 1 := ⟨_, _, _, _, fc_2, by decide, wd_408⟩
theorem fl_X3_7 : FL RX3 7 3 0 := ⟨_, _, _, _, fc_3, by decide, wd_899⟩
theorem fl_X3_13 : FL RX3 13 3 1 := ⟨_, _, _, _, fc_3, by decide, wd_900⟩
theorem fl_X3_16 : FL RX3 16 3 2 := ⟨_, _, _, _, fc_3, by decide, wd_901⟩
theorem fl_X4_9 : FL RX4 9 4 0 := ⟨_, _, _, _, fc_4, by decide, wd_430⟩
theorem fl_X4_15 : FL RX4 15 4 1 := ⟨_, _, _, _, fc_4, by decide, wd_433⟩
theorem fl_X4_19 : FL RX4 19 4 2 := ⟨_, _, _, _, fc_4, by decide, wd_436⟩
theorem fl_X4_22 : FL RX4 22 4 3 := ⟨_, _, _, _, fc_4, by decide, wd_438⟩
theorem fl_X4_25 : FL RX4 25 4 4 := ⟨_, _, _, _, fc_4, by decide, wd_439⟩
theorem fl_X4_28 : FL RX4 28 9 0 := ⟨_, _, _, _, fc_9, by decide, wd_312⟩
theorem fl_X4_35 : FL RX4 35 4 5 := ⟨_, _, _, _, fc_4, by decide, wd_440⟩
theorem fl_X4_39 : FL RX4 39 2 0 := ⟨_, _, _, _, fc_2, by decide, wd_406⟩
theorem fl_X4_42 : FL RX4 42 4 7 := ⟨_, _, _, _, fc_4, by decide, wd_446⟩
theorem fl_X4_45 : FL RX4 45 4 8 := ⟨_, _, _, _, fc_4, by decide, wd_449⟩
theorem fl_X4_50 : FL RX4 50 9 3 := ⟨_, _, _, _, fc_9, by decide, wd_319⟩
theorem fl_X4_60 : FL RX4 60 2 1 := ⟨_, _, _, _, fc_2, by decide, wd_410⟩
theorem fl_X4_63 : FL RX4 63 4 6 := ⟨_, _, _, _, fc_4, by decide, wd_444⟩
theorem fl_X4_73 : FL RX4 73 9 7 := ⟨_, _, _, _, fc_9, by decide, wd_328⟩
theorem fl_X4_76 : FL RX4 76 9 9 := ⟨_, _, _, _, fc_9, by decide, wd_335⟩
theorem fl_X5_11 : FL RX5 11 5 0 := ⟨_, _, _, _, fc_5, by decide, wd_128⟩
theorem fl_X5_19 : FL RX5 19 5 1 := ⟨_, _, _, _, fc_5, by decide, wd_131⟩
theorem fl_X5_25 : FL RX5 25 5 2 := ⟨_, _, _, _, fc_5, by decide, wd_133⟩
theorem fl_X5_29 : FL RX5 29 5 3 := ⟨_, _, _, _, fc_5, by decide, wd_136⟩
theorem fl_X5_33 : FL RX5 33 5 4 := ⟨_, _, _, _, fc_5, by decide, wd_137⟩
theorem fl_X5_36 : FL RX5 36 5 5 := ⟨_, _, _, _, fc_5, by decide, wd_138⟩
theorem fl_X5_39 : FL RX5 39 5 6 := ⟨_, _, _, _, fc_5, by decide, wd_139⟩
theorem fl_X5_43 : FL RX5 43 5 10 := ⟨_, _, _, _, fc_5, by decide, wd_151⟩
theorem fl_X5_47 : FL RX5 47 5 7 := ⟨_, _, _, _, fc_5, by decide, wd_140⟩
theorem fl_X5_54 : FL RX5 54 5 8 := ⟨_, _, _, _, fc_5, by decide, wd_144⟩
theorem fl_X5_57 : FL RX5 57 5 9 := ⟨_, _, _, _, fc_5, by decide, wd_148⟩
theorem fl_X5_81 : FL RX5 81 9 1 := ⟨_, _, _, _, fc_9, by decide, wd_315⟩
theorem fl_X5_87 : FL RX5 87 9 7 := ⟨_, _, _, _, fc_9, by decide, wd_329⟩
theorem fl_X5_90 : FL RX5 90 9 2 := ⟨_, _, _, _, fc_9, by decide, wd_317⟩
theorem fl_X5_105 : FL RX5 105 4 8 := ⟨_, _, _, _, fc_4, by decide, wd_451⟩
theorem fl_X5_109 : FL RX5 109 4 1 := ⟨_, _, _, _, fc_4, by decide, wd_435⟩
theorem fl_X5_113 : FL RX5 113 9 9 := ⟨_, _, _, _, fc_9, by decide, wd_336⟩
theorem fl_X5_125 : FL RX5 125 4 5 := ⟨_, _, _, _, fc_4, by decide, wd_442⟩
theorem fl_X5_130 : FL RX5 130 4 7 := ⟨_, _, _, _, fc_4, by decide, wd_448⟩
theorem fl_X5_143 : FL RX5 143 4 6 := ⟨_, _, _, _, fc_4, by decide, wd_445⟩
theorem fl_X5_154 : FL RX5 154 9 8 := ⟨_, _, _, _, fc_9, by decide, wd_332⟩
theorem fl_X5_163 : FL RX5 163 5 11 := ⟨_, _, _, _, fc_5, by decide, wd_153⟩
theorem fl_X5_166 : FL RX5 166 5 12 := ⟨_, _, _, _, fc_5, by decide, wd_155⟩
theorem fl_X5_174 : FL RX5 174 4 2 := ⟨_, _, _, _, fc_4, by decide, wd_437⟩
theorem fl_X5_189 : FL RX5 189 9 10 := ⟨_, _, _, _, fc_9, by decide, wd_337⟩
theorem fl_X5_192 : FL RX5 192 9 11 := ⟨_, _, _, _, fc_9, by decide, wd_338⟩
theorem fl_X5_195 : FL RX5 195 4 9 := ⟨_, _, _, _, fc_4, by decide, wd_452⟩
theorem fl_X5_198 : FL RX5 198 4 10 := ⟨_, _, _, _, fc_4, by decide, wd_453⟩
theorem fl_X5_201 : FL RX5 201 4 11 := ⟨_, _, _, _, fc_4, by decide, wd_454⟩
theorem fl_X5_210 : FL RX5 210 5 13 := ⟨_, _, _, _, fc_5, by decide, wd_157⟩
theorem fl_X5_213 : FL RX5 213 5 14 := ⟨_, _, _, _, fc_5, by decide, wd_158⟩
theorem fl_X6_11 : FL RX6 11 6 0 := ⟨_, _, _, _, fc_6, by decide, wd_92⟩
theorem fl_X6_17 : FL RX6 17 6 1 := ⟨_, _, _, _, fc_6, by decide, wd_93⟩
theorem fl_X6_20 : FL RX6 20 6 2 := ⟨_, _, _, _, fc_6, by decide, wd_94⟩
theorem fl_X6_24 : FL RX6 24 6 3 := ⟨_, _, _, _, fc_6, by decide, wd_95⟩
theorem fl_X6_31 : FL RX6 31 6 4 := ⟨_, _, _, _, fc_6, by decide, wd_96⟩
theorem fl_X6_38 : FL RX6 38 6 5 := ⟨_, _, _, _, fc_6, by decide, wd_98⟩
theorem fl_X6_81 : FL RX6 81 6 6 := ⟨_, _, _, _, fc_6, by decide, wd_99⟩
theorem fl_X7_9 : FL RX7 9 7 1 := ⟨_, _, _, _, fc_7, by decide, wd_204⟩
theorem fl_X7_15 : FL RX7 15 7 2 := ⟨_, _, _, _, fc_7, by decide, wd_206⟩
theorem fl_X7_18 : FL RX7 18 7 0 := ⟨_, _, _, _, fc_7, by decide, wd_202⟩
theorem fl_X8_9 : FL RX8 9 8 0 := ⟨_, _, _, _, fc_8, by decide, wd_32⟩
theorem fl_X8_15 : FL RX8 15 8 1 := ⟨_, _, _, _, fc_8, by decide, wd_33⟩
theorem fl_X8_18 : FL RX8 18 8 2 := ⟨_, _, _, _, fc_8, by decide, wd_35⟩
theorem fl_X8_21 : FL RX8 21 8 3 := ⟨_, _, _, _, fc_8, by decide, wd_37⟩
theorem fl_X8_28 : FL RX8 28 8 4 := ⟨_, _, _, _, fc_8, by decide, wd_39⟩
theorem fl_X8_32 : FL RX8 32 8 6 := ⟨_, _, _, _, fc_8, by decide, wd_43⟩
theorem fl_X8_35 : FL RX8 35 8 5 := ⟨_, _, _, _, fc_8, by decide, wd_41⟩
theorem fl_X8_57 : FL RX8 57 8 7 := ⟨_, _, _, _, fc_8, by decide, wd_44⟩
theorem fl_X9_9 : FL RX9 9 9 6 := ⟨_, _, _, _, fc_9, by decide, wd_324⟩
theorem fl_X9_15 : FL RX9 15 9 0 := ⟨_, _, _, _, fc_9, by decide, wd_311⟩
theorem fl_X9_19 : FL RX9 19 9 1 := ⟨_, _, _, _, fc_9, by decide, wd_314⟩
theorem fl_X9_22 : FL RX9 22 9 7 := ⟨_, _, _, _, fc_9, by decide, wd_326⟩
theorem fl_X9_25 : FL RX9 25 9 2 := ⟨_, _, _, _, fc_9, by decide, wd_316⟩
theorem fl_X9_28 : FL RX9 28 9 4 := ⟨_, _, _, _, fc_9, by decide, wd_320⟩
theorem fl_X9_31 : FL RX9 31 9 5 := ⟨_, _, _, _, fc_9, by decide, wd_322⟩
theorem fl_X9_34 : FL RX9 34 9 3 := ⟨_, _, _, _, fc_9, by decide, wd_318⟩
theorem fl_X9_43 : FL RX9 43 9 9 := ⟨_, _, _, _, fc_9, by decide, wd_333⟩
theorem fl_X9_47 : FL RX9 47 4 0 := ⟨_, _, _, _, fc_4, by decide, wd_431⟩
theorem fl_X9_50 : FL RX9 50 4 6 := ⟨_, _, _, _, fc_4, by decide, wd_443⟩
theorem fl_X9_57 : FL RX9 57 9 8 := ⟨_, _, _, _, fc_9, by decide, wd_330⟩
theorem fl_X10_12 : FL RX10 12 10 1 := ⟨_, _, _, _, fc_10, by decide, wd_216⟩
theorem fl_X10_18 : FL RX10 18 10 2 := ⟨_, _, _, _, fc_10, by decide, wd_218⟩
theorem fl_X10_21 : FL RX10 21 10 0 := ⟨_, _, _, _, fc_10, by decide, wd_215⟩
theorem fl_X10_29 : FL RX10 29 7 0 := ⟨_, _, _, _, fc_7, by decide, wd_203⟩
theorem fl_X10_33 : FL RX10 33 7 1 := ⟨_, _, _, _, fc_7, by decide, wd_205⟩
theorem fl_X10_36 : FL RX10 36 7 2 := ⟨_, _, _, _, fc_7, by decide, wd_207⟩
theorem fl_X10_79 : FL RX10 79 5 9 := ⟨_, _, _, _, fc_5, by decide, wd_149⟩
theorem fl_X10_82 : FL RX10 82 5 2 := ⟨_, _, _, _, fc_5, by decide, wd_135⟩
theorem fl_X10_94 : FL RX10 94 5 7 := ⟨_, _, _, _, fc_5, by decide, wd_142⟩
theorem fl_X10_97 : FL RX10 97 5 0 := ⟨_, _, _, _, fc_5, by decide, wd_130⟩
theorem fl_X10_101 : FL RX10 101 9 8 := ⟨_, _, _, _, fc_9, by decide, wd_331⟩
theorem fl_X10_106 : FL RX10 106 9 4 := ⟨_, _, _, _, fc_9, by decide, wd_321⟩
theorem fl_X10_109 : FL RX10 109 9 5 := ⟨_, _, _, _, fc_9, by decide, wd_323⟩
theorem fl_X10_120 : FL RX10 120 5 10 := ⟨_, _, _, _, fc_5, by decide, wd_152⟩
theorem fl_X12_7 : FL RX12 7 12 2 := ⟨_, _, _, _, fc_12, by decide, wd_985⟩
theorem fl_X12_13 : FL RX12 13 12 3 := ⟨_, _, _, _, fc_12, by decide, wd_986⟩
theorem fl_X12_16 : FL RX12 16 12 4 := ⟨_, _, _, _, fc_12, by decide, wd_987⟩
theorem fl_X12_19 : FL RX12 19 12 5 := ⟨_, _, _, _, fc_12, by decide, wd_988⟩
theorem fl_X12_22 : FL RX12 22 12 6 := ⟨_, _, _, _, fc_12, by decide, wd_989⟩
theorem fl_X12_25 : FL RX12 25 12 7 := ⟨_, _, _, _, fc_12, by decide, wd_990⟩
theorem fl_X12_28 : FL RX12 28 12 8 := ⟨_, _, _, _, fc_12, by decide, wd_991⟩
theorem fl_X12_31 : FL RX12 31 12 10 := ⟨_, _, _, _, fc_12, by decide, wd_993⟩
theorem fl_X12_34 : FL RX12 34 12 12 := ⟨_, _, _, _, fc_12, by decide, wd_995⟩
theorem fl_X12_37 : FL RX12 37 12 13 := ⟨_, _, _, _, fc_12, by decide, wd_996⟩
theorem fl_X12_40 : FL RX12 40 12 14 := ⟨_, _, _, _, fc_12, by decide, wd_997⟩
theorem fl_X12_43 : FL RX12 43 12 15 := ⟨_, _, _, _, fc_12, by decide, wd_998⟩
theorem fl_X12_46 : FL RX12 46 12 16 := ⟨_, _, _, _, fc_12, by decide, wd_999⟩
theorem fl_X12_49 : FL RX12 49 12 17 := ⟨_, _, _, _, fc_12, by decide, wd_1000⟩
theorem fl_X12_52 : FL RX12 52 12 18 := ⟨_, _, _, _, fc_12, by decide, wd_1001⟩
theorem fl_X12_56 : FL RX12 56 12 19 := ⟨_, _, _, _, fc_12, by decide, wd_1002⟩
theorem fl_X12_60 : FL RX12 60 12 20 := ⟨_, _, _, _, fc_12, by decide, wd_1003⟩
theorem fl_X12_64 : FL RX12 64 12 24 := ⟨_, _, _, _, fc_12, by decide, wd_1007⟩
theorem fl_X12_67 : FL RX12 67 12 25 := ⟨_, _, _, _, fc_12, by decide, wd_1008⟩
theorem fl_X12_70 : FL RX12 70 12 26 := ⟨_, _, _, _, fc_12, by decide, wd_1009⟩
theorem fl_X12_73 : FL RX12 73 12 27 := ⟨_, _, _, _, fc_12, by decide, wd_1010⟩
theorem fl_X12_76 : FL RX12 76 12 28 := ⟨_, _, _, _, fc_12, by decide, wd_1011⟩
theorem fl_X12_79 : FL RX12 79 12 31 := ⟨_, _, _, _, fc_12, by decide, wd_1014⟩
theorem fl_X12_82 : FL RX12 82 12 32 := ⟨_, _, _, _, fc_12, by decide, wd_1015⟩
theorem fl_X12_85 : FL RX12 85 12 33 := ⟨_, _, _, _, fc_12, by decide, wd_1016⟩
theorem fl_X12_88 : FL RX12 88 12 35 := ⟨_, _, _, _, fc_12, by decide, wd_1018⟩
theorem fl_X12_91 : FL RX12 91 12 36 := ⟨_, _, _, _, fc_12, by decide, wd_1019⟩
theorem fl_X12_95 : FL RX12 95 12 40 := ⟨_, _, _, _, fc_12, by decide, wd_1023⟩
theorem fl_X12_98 : FL RX12 98 12 41 := ⟨_, _, _, _, fc_12, by decide, wd_1024⟩
theorem fl_X12_101 : FL RX12 101 12 42 := ⟨_, _, _, _, fc_12, by decide, wd_1025⟩
theorem fl_X12_104 : FL RX12 104 12 44 := ⟨_, _, _, _, fc_12, by decide, wd_1027⟩
theorem fl_X12_107 : FL RX12 107 12 45 := ⟨_, _, _, _, fc_12, by decide, wd_1028⟩
theorem fl_X12_110 : FL RX12 110 12 46 := ⟨_, _, _, _, fc_12, by decide, wd_1029⟩
theorem fl_X12_113 : FL RX12 113 12 47 := ⟨_, _, _, _, fc_12, by decide, wd_1030⟩
theorem fl_X12_116 : FL RX12 116 12 48 := ⟨_, _, _, _, fc_12, by decide, wd_1031⟩
theorem fl_X12_119 : FL RX12 119 12 54 := ⟨_, _, _, _, fc_12, by decide, wd_1037⟩
theorem fl_X12_122 : FL RX12 122 12 55 := ⟨_, _, _, _, fc_12, by decide, wd_1038⟩
theorem fl_X12_125 : FL RX12 125 12 57 := ⟨_, _, _, _, fc_12, by decide, wd_1040⟩
theorem fl_X12_128 : FL RX12 128 12 58 := ⟨_, _, _, _, fc_12, by decide, wd_1041⟩
theorem fl_X12_131 : FL RX12 131 12 60 := ⟨_, _, _, _, fc_12, by decide, wd_1043⟩
theorem fl_X12_134 : FL RX12 134 12 61 := ⟨_, _, _, _, fc_12, by decide, wd_1044⟩
theorem fl_X12_137 : FL RX12 137 12 62 := ⟨_, _, _, _, fc_12, by decide, wd_1045⟩
theorem fl_X12_140 : FL RX12 140 12 64 := ⟨_, _, _, _, fc_12, by decide, wd_1047⟩
theorem fl_X12_146 : FL RX12 146 12 1 := ⟨_, _, _, _, fc_12, by decide, wd_984⟩
theorem fl_X12_153 : FL RX12 153 12 11 := ⟨_, _, _, _, fc_12, by decide, wd_994⟩
theorem fl_X12_156 : FL RX12 156 12 9 := ⟨_, _, _, _, fc_12, by decide, wd_992⟩
theorem fl_X12_162 : FL RX12 162 12 43 := ⟨_, _, _, _, fc_12, by decide, wd_1026⟩
theorem fl_X12_194 : FL RX12 194 12 23 := ⟨_, _, _, _, fc_12, by decide, wd_1006⟩
theorem fl_X12_211 : FL RX12 211 12 21 := ⟨_, _, _, _, fc_12, by decide, wd_1004⟩
theorem fl_X12_214 : FL RX12 214 12 22 := ⟨_, _, _, _, fc_12, by decide, wd_1005⟩
theorem fl_X12_227 : FL RX12 227 12 29 := ⟨_, _, _, _, fc_12, by decide, wd_1012⟩
theorem fl_X12_230 : FL RX12 230 12 30 := ⟨_, _, _, _, fc_12, by decide, wd_1013⟩
theorem fl_X12_233 : FL RX12 233 12 34 := ⟨_, _, _, _, fc_12, by decide, wd_1017⟩
theorem fl_X12_246 : FL RX12 246 12 37 := ⟨_, _, _, _, fc_12, by decide, wd_1020⟩
theorem fl_X12_249 : FL RX12 249 12 38 := ⟨_, _, _, _, fc_12, by decide, wd_1021⟩
theorem fl_X12_255 : FL RX12 255 12 51 := ⟨_, _, _, _, fc_12, by decide, wd_1034⟩
theorem fl_X12_258 : FL RX12 258 12 39 := ⟨_, _, _, _, fc_12, by decide, wd_1022⟩
theorem fl_X12_265 : FL RX12 265 12 49 := ⟨_, _, _, _, fc_12, by decide, wd_1032⟩
theorem fl_X12_268 : FL RX12 268 12 50 := ⟨_, _, _, _, fc_12, by decide, wd_1033⟩
theorem fl_X12_278 : FL RX12 278 12 52 := ⟨_, _, _, _, fc_12, by decide, wd_1035⟩
theorem fl_X12_281 : FL RX12 281 12 53 := ⟨_, _, _, _, fc_12, by decide, wd_1036⟩
theorem fl_X12_290 : FL RX12 290 12 56 := ⟨_, _, _, _, fc_12, by decide, wd_1039⟩
theorem fl_X12_293 : FL RX12 293 12 59 := ⟨_, _, _, _, fc_12, by decide, wd_1042⟩
theorem fl_X12_308 : FL RX12 308 12 63 := ⟨_, _, _, _, fc_12, by decide, wd_1046⟩
theorem ff_0_0 : FF RX0 0 0 := fun q hq => by cases hq; exact ⟨rfl, rfl⟩
theorem ff_0_1 : FF RX0 0 1 := fun q hq => by cases hq; exact ⟨rfl, rfl⟩
theorem fn_0_2 : FN 0 2 := fun q hq => by cases hq; rfl
theorem fn_0_3 : FN 0 3 := fun q hq => by cases hq; rfl
theorem ff_1_0 : FF RX1 1 0 := fun q hq => by cases hq; exact ⟨rfl, rfl⟩
theorem ff_1_1 : FF RX1 1 1 := fun q hq => by cases hq; exact ⟨rfl, rfl⟩
theorem ff_1_2 : FF RX1 1 2 := fun q hq => by cases hq; exact ⟨rfl, rfl⟩
theorem ff_1_3 : FF RX1 1 3 := fun q hq => by cases hq; exact ⟨rfl, rfl⟩
theorem fn_1_4 : FN 1 4 := fun q hq => by cases hq; rfl
theorem fn_1_5 : FN 1 5 := fun q hq => by cases hq; rfl
theorem fn_1_6 : FN 1 6 := fun q hq => by cases hq; rfl
theorem fn_1_7 : FN 1 7 := fun q hq => by cases hq; rfl
theorem fn_1_8 : FN 1 8 := fun q hq => by cases hq; rfl
theorem ff_2_0 : FF RX2 2 0 := fun q hq => by cases hq; exact ⟨rfl, rfl⟩
theorem ff_2_1 : FF RX2 2 1 := fun q hq => by cases hq; exact ⟨rfl, rfl⟩
theorem ff_3_0 : FF RX3 3 0 := fun q hq => by cases hq; exact ⟨rfl, rfl⟩
theorem ff_3_1 : FF RX3 3 1 := fun q hq => by cases hq; exact ⟨rfl, rfl⟩
theorem ff_3_2 : FF RX3 3 2 := fun q hq => by cases hq; exact ⟨rfl, rfl⟩
theorem ff_4_0 : FF RX4 4 0 := fun q hq => by cases hq; exact ⟨rfl, rfl⟩
theorem ff_4_1 : FF RX4 4 1 := fun q hq => by cases hq; exact ⟨rfl, rfl⟩
theorem ff_4_2 : FF RX4 4 2 := fun q hq => by cases hq; exact ⟨rfl, rfl⟩
theorem ff_4_3 : FF RX4 4 3 := fun q hq => by cases hq; exact ⟨rfl, rfl⟩
theorem ff_4_4 : FF RX4 4 4 := fun q hq => by cases hq; exact ⟨rfl, rfl⟩
theorem fn_4_5 : FN 4 5 := fun q hq => by cases hq; rfl
theorem fn_4_6 : FN 4 6 := fun q hq => by cases hq; rfl
theorem fn_4_7 : FN 4 7 := fun q hq => by cases hq; rfl
theorem fn_4_8 : FN 4 8 := fun q hq => by cases hq; rfl
theorem fn_4_9 : FN 4 9 := fun q hq => by cases hq; rfl
theorem fn_4_10 : FN 4 10 := fun q hq => by cases hq; rfl
theorem fn_4_11 : FN 4 11 := fun q hq => by cases hq; rfl
theorem ff_5_0 : FF RX5 5 0 := fun q hq => by cases hq; exact ⟨rfl, rfl⟩
theorem ff_5_1 : FF RX5 5 1 := fun q hq => by cases hq; exact ⟨rfl, rfl⟩
theorem ff_5_2 : FF RX5 5 2 := fun q hq => by cases hq; exact ⟨rfl, rfl⟩
theorem ff_5_3 : FF RX5 5 3 := fun q hq => by cases hq; exact ⟨rfl, rfl⟩
theorem ff_5_4 : FF RX5 5 4 := fun q hq => by cases hq; exact ⟨rfl, rfl⟩
theorem ff_5_5 : FF RX5 5 5 := fun q hq => by cases hq; exact ⟨rfl, rfl⟩
theorem ff_5_6 : FF RX5 5 6 := fun q hq => by cases hq; exact ⟨rfl, rfl⟩
theorem fn_5_7 : FN 5 7 := fun q hq => by cases hq; rfl
theorem fn_5_8 : FN 5 8 := fun q hq => by cases hq; rfl
theorem fn_5_9 : FN 5 9 := fun q hq => by cases hq; rfl
theorem fn_5_10 : FN 5 10 := fun q hq => by cases hq; rfl
theorem fn_5_11 : FN 5 11 := fun q hq => by cases hq; rfl
theorem fn_5_12 : FN 5 12 := fun q hq => by cases hq; rfl
theorem fn_5_13 : FN 5 13 := fun q hq => by cases hq; rfl
theorem fn_5_14 : FN 5 14 := fun q hq => by cases hq; rfl
theorem ff_6_0 : FF RX6 6 0 := fun q hq => by cases hq; exact ⟨rfl, rfl⟩
theorem ff_6_1 : FF RX6 6 1 := fun q hq => by cases hq; exact ⟨rfl, rfl⟩
theorem ff_6_2 : FF RX6 6 2 := fun q hq => by cases hq; exact ⟨rfl, rfl⟩
theorem ff_6_3 : FF RX6 6 3 := fun q hq => by cases hq; exact ⟨rfl, rfl⟩
theorem fn_6_4 : FN 6 4 := fun q hq => by cases hq; rfl
theorem fn_6_5 : FN 6 5 := fun q hq => by cases hq; rfl
theorem fn_6_6 : FN 6 6 := fun q hq => by cases hq; rfl
theorem fn_7_0 : FN 7 0 := fun q hq => by cases hq; rfl
theorem fn_7_1 : FN 7 1 := fun q hq => by cases hq; rfl
theorem fn_7_2 : FN 7 2 := fun q hq => by cases hq; rfl
theorem ff_8_0 : FF RX8 8 0 := fun q hq => by cases hq; exact ⟨rfl, rfl⟩
theorem ff_8_1 : FF RX8 8 1 := fun q hq => by cases hq; exact ⟨rfl, rfl⟩
theorem ff_8_2 : FF RX8 8 2 := fun q hq => by cases hq; exact ⟨rfl, rfl⟩
theorem ff_8_3 : FF RX8 8 3 := fun q hq => by cases hq; exact ⟨rfl, rfl⟩
theorem fn_8_4 : FN 8 4 := fun q hq => by cases hq; rfl
theorem fn_8_5 : FN 8 5 := fun q hq => by cases hq; rfl
theorem fn_8_6 : FN 8 6 := fun q hq => by cases hq; rfl
theorem fn_8_7 : FN 8 7 := fun q hq => by cases hq; rfl
theorem ff_9_0 : FF RX9 9 0 := fun q hq => by cases hq; exact ⟨rfl, rfl⟩
theorem ff_9_1 : FF RX9 9 1 := fun q hq => by cases hq; exact ⟨rfl, rfl⟩
theorem ff_9_2 : FF RX9 9 2 := fun q hq => by cases hq; exact ⟨rfl, rfl⟩
theorem ff_9_3 : FF RX9 9 3 := fun q hq => by cases hq; exact ⟨rfl, rfl⟩
theorem ff_9_4 : FF RX9 9 4 := fun q hq => by cases hq; exact ⟨rfl, rfl⟩
theorem ff_9_5 : FF RX9 9 5 := fun q hq => by cases hq; exact ⟨rfl, rfl⟩
theorem ff_9_6 : FF RX9 9 6 := fun q hq => by cases hq; exact ⟨rfl, rfl⟩
theorem fn_9_7 : FN 9 7 := fun q hq => by cases hq; rfl
theorem fn_9_8 : FN 9 8 := fun q hq => by cases hq; rfl
theorem fn_9_9 : FN 9 9 := fun q hq => by cases hq; rfl
theorem fn_9_10 : FN 9 10 := fun q hq => by cases hq; rfl
theorem fn_9_11 : FN 9 11 := fun q hq => by cases hq; rfl
theorem ff_10_0 : FF RX10 10 0 := fun q hq => by cases hq; exact ⟨rfl, rfl⟩
theorem ff_10_1 : FF RX10 10 1 := fun q hq => by cases hq; exact ⟨rfl, rfl⟩
theorem ff_10_2 : FF RX10 10 2 := fun q hq => by cases hq; exact ⟨rfl, rfl⟩
theorem ff_11_0 : FF RX11 11 0 := fun q hq => by cases hq; exact ⟨rfl, rfl⟩
theorem ff_11_1 : FF RX11 11 1 := fun q hq => by cases hq; exact ⟨rfl, rfl⟩
theorem ff_11_2 : FF RX11 11 2 := fun q hq => by cases hq; exact ⟨rfl, rfl⟩
theorem ff_11_3 : FF RX11 11 3 := fun q hq => by cases hq; exact ⟨rfl, rfl⟩
theorem ff_11_4 : FF RX11 11 4 := fun q hq => by cases hq; exact ⟨rfl, rfl⟩
theorem ff_11_5 : FF RX11 11 5 := fun q hq => by cases hq; exact ⟨rfl, rfl⟩
theorem fn_11_6 : FN 11 6 := fun q hq => by cases hq; rfl
theorem fn_12_0 : FN 12 0 := fun q hq => by cases hq; rfl
theorem fn_12_1 : FN 12 1 := fun q hq => by cases hq; rfl
theorem ff_12_2 : FF RX12 12 2 := fun q hq => by cases hq; exact ⟨rfl, rfl⟩
theorem ff_12_3 : FF RX12 12 3 := fun q hq => by cases hq; exact ⟨rfl, rfl⟩
theorem ff_12_4 : FF RX12 12 4 := fun q hq => by cases hq; exact ⟨rfl, rfl⟩
theorem ff_12_5 : FF RX12 12 5 := fun q hq => by cases hq; exact ⟨rfl, rfl⟩
theorem ff_12_6 : FF RX12 12 6 := fun q hq => by cases hq; exact ⟨rfl, rfl⟩
theorem ff_12_7 : FF RX12 12 7 := fun q hq => by cases hq; exact ⟨rfl, rfl⟩
theorem ff_12_8 : FF RX12 12 8 := fun q hq => by cases hq; exact ⟨rfl, rfl⟩
theorem fn_12_9 : FN 12 9 := fun q hq => by cases hq; rfl
theorem ff_12_10 : FF RX12 12 10 := fun q hq => by cases hq; exact ⟨rfl, rfl⟩
theorem fn_12_11 : FN 12 11 := fun q hq => by cases hq; rfl
theorem ff_12_12 : FF RX12 12 12 := fun q hq => by cases hq; exact ⟨rfl, rfl⟩
theorem ff_12_13 : FF RX12 12 13 := fun q hq => by cases hq; exact ⟨rfl, rfl⟩
theorem ff_12_14 : FF RX12 12 14 := fun q hq => by cases hq; exact ⟨rfl, rfl⟩
theorem ff_12_15 : FF RX12 12 15 := fun q hq => by cases hq; exact ⟨rfl, rfl⟩
theorem ff_12_16 : FF RX12 12 16 := fun q hq => by cases hq; exact ⟨rfl, rfl⟩
theorem ff_12_17 : FF RX12 12 17 := fun q hq => by cases hq; exact ⟨rfl, rfl⟩
theorem ff_12_18 : FF RX12 12 18 := fun q hq => by cases hq; exact ⟨rfl, rfl⟩
theorem ff_12_19 : FF RX12 12 19 := fun q hq => by cases hq; exact ⟨rfl, rfl⟩
theorem fn_12_20 : FN 12 20 := fun q hq => by cases hq; rfl
theorem fn_12_21 : FN 12 21 := fun q hq => by cases hq; rfl
theorem fn_12_22 : FN 12 22 := fun q hq => by cases hq; rfl
theorem fn_12_23 : FN 12 23 := fun q hq => by cases hq; rfl
theorem fn_12_24 : FN 12 24 := fun q hq => by cases hq; rfl
theorem fn_12_25 : FN 12 25 := fun q hq => by cases hq; rfl
theorem ff_12_26 : FF RX12 12 26 := fun q hq => by cases hq; exact ⟨rfl, rfl⟩
theorem ff_12_27 : FF RX12 12 27 := fun q hq => by cases hq; exact ⟨rfl, rfl⟩
theorem ff_12_28 : FF RX12 12 28 := fun q hq => by cases hq; exact ⟨rfl, rfl⟩
theorem fn_12_29 : FN 12 29 := fun q hq => by cases hq; rfl
theorem fn_12_30 : FN 12 30 := fun q hq => by cases hq; rfl
theorem ff_12_31 : FF RX12 12 31 := fun q hq => by cases hq; exact ⟨rfl, rfl⟩
theorem ff_12_32 : FF RX12 12 32 := fun q hq => by cases hq; exact ⟨rfl, rfl⟩
theorem ff_12_33 : FF RX12 12 33 := fun q hq => by cases hq; exact ⟨rfl, rfl⟩
theorem fn_12_34 : FN 12 34 := fun q hq => by cases hq; rfl
theorem ff_12_35 : FF RX12 12 35 := fun q hq => by cases hq; exact ⟨rfl, rfl⟩
theorem ff_12_36 : FF RX12 12 36 := fun q hq => by cases hq; exact ⟨rfl, rfl⟩
theorem fn_12_37 : FN 12 37 := fun q hq => by cases hq; rfl
theorem fn_12_38 : FN 12 38 := fun q hq => by cases hq; rfl
theorem fn_12_39 : FN 12 39 := fun q hq => by cases hq; rfl
theorem ff_12_40 : FF RX12 12 40 := fun q hq => by cases hq; exact ⟨rfl, rfl⟩
theorem ff_12_41 : FF RX12 12 41 := fun q hq => by cases hq; exact ⟨rfl, rfl⟩
theorem ff_12_42 : FF RX12 12 42 := fun q hq => by cases hq; exact ⟨rfl, rfl⟩
theorem fn_12_43 : FN 12 43 := fun q hq => by cases hq; rfl
theorem ff_12_44 : FF RX12 12 44 := fun q hq => by cases hq; exact ⟨rfl, rfl⟩
theorem ff_12_45 : FF RX12 12 45 := fun q hq => by cases hq; exact ⟨rfl, rfl⟩
theorem ff_12_46 : FF RX12 12 46 := fun q hq => by cases hq; exact ⟨rfl, rfl⟩
theorem ff_12_47 : FF RX12 12 47 := fun q hq => by cases hq; exact ⟨rfl, rfl⟩
theorem ff_12_48 : FF RX12 12 48 := fun q hq => by cases hq; exact ⟨rfl, rfl⟩
theorem fn_12_49 : FN 12 49 := fun q hq => by cases hq; rfl
theorem fn_12_50 : FN 12 50 := fun q hq => by cases hq; rfl
theorem fn_12_51 : FN 12 51 := fun q hq => by cases hq; rfl
theorem fn_12_52 : FN 12 52 := fun q hq => by cases hq; rfl
theorem fn_12_53 : FN 12 53 := fun q hq => by cases hq; rfl
theorem ff_12_54 : FF RX12 12 54 := fun q hq => by cases hq; exact ⟨rfl, rfl⟩
theorem ff_12_55 : FF RX12 12 55 := fun q hq => by cases hq; exact ⟨rfl, rfl⟩
theorem fn_12_56 : FN 12 56 := fun q hq => by cases hq; rfl
theorem ff_12_57 : FF RX12 12 57 := fun q hq => by cases hq; exact ⟨rfl, rfl⟩
theorem ff_12_58 : FF RX12 12 58 := fun q hq => by cases hq; exact ⟨rfl, rfl⟩
theorem fn_12_59 : FN 12 59 := fun q hq => by cases hq; rfl
theorem ff_12_60 : FF RX12 12 60 := fun q hq => by cases hq; exact ⟨rfl, rfl⟩
theorem ff_12_61 : FF RX12 12 61 := fun q hq => by cases hq; exact ⟨rfl, rfl⟩
theorem ff_12_62 : FF RX12 12 62 := fun q hq => by cases hq; exact ⟨rfl, rfl⟩
theorem fn_12_63 : FN 12 63 := fun q hq => by cases hq; rfl
theorem ff_12_64 : FF RX12 12 64 := fun q hq => by cases hq; exact ⟨rfl, rfl⟩
theorem pd_0 : (parseMethodDescriptor "()V").map (fun d => d.parameters.length) = some 0 := by decide +kernel
theorem cn_0 : "StageMachine$Candles" ≠ "java/lang/invoke/MethodHandle" ∧ "StageMachine$Candles" ≠ "java/lang/invoke/VarHandle" := by decide +kernel
theorem mcX0_init : MC yX0_init cX0_init 1 none 0 := ⟨wd_67, wd_3, cn_0.1, cn_0.2, pd_0⟩
theorem pd_1 : (parseMethodDescriptor "(I)I").map (fun d => d.parameters.length) = some 1 := by decide +kernel
theorem mcX0_add : MC yX0_add cX0_add 2 (some .int) 1 := ⟨wd_848, wd_3, cn_0.1, cn_0.2, pd_1⟩
theorem mcX0_pass : MC yX0_pass cX0_pass 2 (some .int) 1 := ⟨wd_857, wd_3, cn_0.1, cn_0.2, pd_1⟩
theorem mcX0_renew : MC yX0_renew cX0_renew 4 (some .int) 1 := ⟨wd_865, wd_3, cn_0.1, cn_0.2, pd_1⟩
theorem mcX0_tell : MC yX0_tell cX0_tell 2 (some .int) 1 := ⟨wd_873, wd_3, cn_0.1, cn_0.2, pd_1⟩
theorem pd_2 : (parseMethodDescriptor "()I").map (fun d => d.parameters.length) = some 0 := by decide +kernel
theorem mcX0_burning : MC yX0_burning cX0_burning 3 (some .int) 0 := ⟨wd_877, wd_3, cn_0.1, cn_0.2, pd_2⟩
theorem mcX0_leastLeft : MC yX0_leastLeft cX0_leastLeft 4 (some .int) 0 := ⟨wd_881, wd_3, cn_0.1, cn_0.2, pd_2⟩
theorem pd_3 : (parseMethodDescriptor "(LStageMachine$Stage;)V").map (fun d => d.parameters.length) = some 1 := by decide +kernel
theorem cn_1 : "StageMachine$Change" ≠ "java/lang/invoke/MethodHandle" ∧ "StageMachine$Change" ≠ "java/lang/invoke/VarHandle" := by decide +kernel
theorem mcX1_init : MC yX1_init cX1_init 2 none 1 := ⟨wd_230, wd_8, cn_1.1, cn_1.2, pd_3⟩
theorem pd_4 : (parseMethodDescriptor "(II)I").map (fun d => d.parameters.length) = some 2 := by decide +kernel
theorem mcX1_plan : MC yX1_plan cX1_plan 7 (some .int) 2 := ⟨wd_707, wd_8, cn_1.1, cn_1.2, pd_4⟩
theorem pd_5 : (parseMethodDescriptor "(LStageMachine$Thing;II)Z").map (fun d => d.parameters.length) = some 3 := by decide +kernel
theorem mcX1_findTie : MC yX1_findTie cX1_findTie 8 (some .boolean) 3 := ⟨wd_714, wd_8, cn_1.1, cn_1.2, pd_5⟩
theorem pd_6 : (parseMethodDescriptor "(LStageMachine$Rope;II)I").map (fun d => d.parameters.length) = some 3 := by decide +kernel
theorem mcX1_findDrum : MC yX1_findDrum cX1_findDrum 5 (some .int) 3 := ⟨wd_719, wd_8, cn_1.1, cn_1.2, pd_6⟩
theorem mcX1_countWorks : MC yX1_countWorks cX1_countWorks 3 none 0 := ⟨wd_724, wd_8, cn_1.1, cn_1.2, pd_0⟩
theorem pd_7 : (parseMethodDescriptor "(LStageMachine$Rope;I)Z").map (fun d => d.parameters.length) = some 2 := by decide +kernel
theorem mcX1_isReady : MC yX1_isReady cX1_isReady 3 (some .boolean) 2 := ⟨wd_728, wd_8, cn_1.1, cn_1.2, pd_7⟩
theorem mcX1_tieOf : MC yX1_tieOf cX1_tieOf 4 (some .int) 2 := ⟨wd_736, wd_8, cn_1.1, cn_1.2, pd_4⟩
theorem mcX1_workFor : MC yX1_workFor cX1_workFor 2 (some .int) 1 := ⟨wd_745, wd_8, cn_1.1, cn_1.2, pd_1⟩
theorem mcX1_works : MC yX1_works cX1_works 1 (some .int) 0 := ⟨wd_749, wd_8, cn_1.1, cn_1.2, pd_2⟩
theorem mcX1_leastMen : MC yX1_leastMen cX1_leastMen 2 (some .int) 1 := ⟨wd_757, wd_8, cn_1.1, cn_1.2, pd_1⟩
theorem mcX1_longestWork : MC yX1_longestWork cX1_longestWork 1 (some .int) 0 := ⟨wd_761, wd_8, cn_1.1, cn_1.2, pd_2⟩
theorem mcX1_shareOut : MC yX1_shareOut cX1_shareOut 6 (some .int) 1 := ⟨wd_765, wd_8, cn_1.1, cn_1.2, pd_1⟩
theorem pd_8 : (parseMethodDescriptor "(IIII)I").map (fun d => d.parameters.length) = some 4 := by decide +kernel
theorem mcX1_leastShare : MC yX1_leastShare cX1_leastShare 6 (some .int) 4 := ⟨wd_769, wd_8, cn_1.1, cn_1.2, pd_8⟩
theorem pd_9 : (parseMethodDescriptor "(III)I").map (fun d => d.parameters.length) = some 3 := by decide +kernel
theorem mcX1_withWork : MC yX1_withWork cX1_withWork 5 (some .int) 3 := ⟨wd_777, wd_8, cn_1.1, cn_1.2, pd_9⟩
theorem mcX1_slot : MC yX1_slot cX1_slot 4 (some .int) 3 := ⟨wd_773, wd_8, cn_1.1, cn_1.2, pd_9⟩
theorem pd_10 : (parseMethodDescriptor "(II)V").map (fun d => d.parameters.length) = some 2 := by decide +kernel
theorem cn_2 : "StageMachine$Drum" ≠ "java/lang/invoke/MethodHandle" ∧ "StageMachine$Drum" ≠ "java/lang/invoke/VarHandle" := by decide +kernel
theorem mcX2_init : MC yX2_init cX2_init 3 none 2 := ⟨wd_403, wd_12, cn_2.1, cn_2.2, pd_10⟩
theorem cn_3 : "StageMachine$Panel" ≠ "java/lang/invoke/MethodHandle" ∧ "StageMachine$Panel" ≠ "java/lang/invoke/VarHandle" := by decide +kernel
theorem mcX3_init : MC yX3_init cX3_init 3 none 2 := ⟨wd_897, wd_16, cn_3.1, cn_3.2, pd_10⟩
theorem mcX3_area : MC yX3_area cX3_area 1 (some .int) 0 := ⟨wd_955, wd_16, cn_3.1, cn_3.2, pd_2⟩
theorem pd_11 : (parseMethodDescriptor "(LStageMachine$Panel;)Z").map (fun d => d.parameters.length) = some 1 := by decide +kernel
theorem mcX3_serves : MC yX3_serves cX3_serves 2 (some .boolean) 1 := ⟨wd_947, wd_16, cn_3.1, cn_3.2, pd_11⟩
theorem pd_12 : (parseMethodDescriptor "(LStageMachine$Panel;)I").map (fun d => d.parameters.length) = some 1 := by decide +kernel
theorem mcX3_priceFor : MC yX3_priceFor cX3_priceFor 3 (some .int) 1 := ⟨wd_951, wd_16, cn_3.1, cn_3.2, pd_12⟩
theorem pd_13 : (parseMethodDescriptor "(ILStageMachine$Thing;III)V").map (fun d => d.parameters.length) = some 5 := by decide +kernel
theorem cn_4 : "StageMachine$Rope" ≠ "java/lang/invoke/MethodHandle" ∧ "StageMachine$Rope" ≠ "java/lang/invoke/VarHandle" := by decide +kernel
theorem mcX4_init : MC yX4_init cX4_init 6 none 5 := ⟨wd_428, wd_13, cn_4.1, cn_4.2, pd_13⟩
theorem mcX4_tell : MC yX4_tell cX4_tell 2 (some .int) 1 := ⟨wd_492, wd_13, cn_4.1, cn_4.2, pd_1⟩
theorem mcX4_load : MC yX4_load cX4_load 1 (some .int) 0 := ⟨wd_496, wd_13, cn_4.1, cn_4.2, pd_2⟩
theorem mcX4_spare : MC yX4_spare cX4_spare 1 (some .int) 0 := ⟨wd_517, wd_13, cn_4.1, cn_4.2, pd_2⟩
theorem mcX4_placeFrom : MC yX4_placeFrom cX4_placeFrom 3 (some .int) 2 := ⟨wd_570, wd_13, cn_4.1, cn_4.2, pd_4⟩
theorem mcX4_doneAfter : MC yX4_doneAfter cX4_doneAfter 2 (some .int) 1 := ⟨wd_566, wd_13, cn_4.1, cn_4.2, pd_1⟩
theorem mcX4_pullAt : MC yX4_pullAt cX4_pullAt 2 (some .int) 1 := ⟨wd_581, wd_13, cn_4.1, cn_4.2, pd_1⟩
theorem mcX4_stepsToNextPlace : MC yX4_stepsToNextPlace cX4_stepsToNextPlace 7 (some .int) 2 := ⟨wd_632, wd_13, cn_4.1, cn_4.2, pd_4⟩
theorem pd_14 : (parseMethodDescriptor "(I)V").map (fun d => d.parameters.length) = some 1 := by decide +kernel
theorem mcX4_advance : MC yX4_advance cX4_advance 2 none 1 := ⟨wd_646, wd_13, cn_4.1, cn_4.2, pd_14⟩
theorem pd_15 : (parseMethodDescriptor "(LStageMachine$Drum;)V").map (fun d => d.parameters.length) = some 1 := by decide +kernel
theorem mcX4_bind : MC yX4_bind cX4_bind 2 none 1 := ⟨wd_521, wd_13, cn_4.1, cn_4.2, pd_15⟩
theorem mcX4_loosen : MC yX4_loosen cX4_loosen 1 none 0 := ⟨wd_534, wd_13, cn_4.1, cn_4.2, pd_0⟩
theorem cn_5 : "StageMachine$Stage" ≠ "java/lang/invoke/MethodHandle" ∧ "StageMachine$Stage" ≠ "java/lang/invoke/VarHandle" := by decide +kernel
theorem mcX5_init : MC yX5_init cX5_init 1 none 0 := ⟨wd_119, wd_5, cn_5.1, cn_5.2, pd_0⟩
theorem pd_16 : (parseMethodDescriptor "(I)LStageMachine$Thing;").map (fun d => d.parameters.length) = some 1 := by decide +kernel
theorem mcX5_thingNumbered : MC yX5_thingNumbered cX5_thingNumbered 2 (Option.some (FieldType.object "StageMachine$Thing")) 1 := ⟨wd_375, wd_5, cn_5.1, cn_5.2, pd_16⟩
theorem pd_17 : (parseMethodDescriptor "(I)LStageMachine$Drum;").map (fun d => d.parameters.length) = some 1 := by decide +kernel
theorem mcX5_drumNumbered : MC yX5_drumNumbered cX5_drumNumbered 2 (Option.some (FieldType.object "StageMachine$Drum")) 1 := ⟨wd_513, wd_5, cn_5.1, cn_5.2, pd_17⟩
theorem pd_18 : (parseMethodDescriptor "(I)LStageMachine$Rope;").map (fun d => d.parameters.length) = some 1 := by decide +kernel
theorem mcX5_ropeNumbered : MC yX5_ropeNumbered cX5_ropeNumbered 2 (Option.some (FieldType.object "StageMachine$Rope")) 1 := ⟨wd_487, wd_5, cn_5.1, cn_5.2, pd_18⟩
theorem mcX5_addThing : MC yX5_addThing cX5_addThing 11 (some .int) 4 := ⟨wd_289, wd_5, cn_5.1, cn_5.2, pd_8⟩
theorem mcX5_addDrum : MC yX5_addDrum cX5_addDrum 2 (some .int) 1 := ⟨wd_399, wd_5, cn_5.1, cn_5.2, pd_1⟩
theorem mcX5_addRope : MC yX5_addRope cX5_addRope 8 (some .int) 3 := ⟨wd_423, wd_5, cn_5.1, cn_5.2, pd_9⟩
theorem mcX5_standingOn : MC yX5_standingOn cX5_standingOn 4 (some .int) 1 := ⟨wd_387, wd_5, cn_5.1, cn_5.2, pd_1⟩
theorem pd_19 : (parseMethodDescriptor "(LStageMachine$Thing;III)Z").map (fun d => d.parameters.length) = some 4 := by decide +kernel
theorem mcX5_isClear : MC yX5_isClear cX5_isClear 8 (some .boolean) 4 := ⟨wd_299, wd_5, cn_5.1, cn_5.2, pd_19⟩
theorem mcX5_tieRope : MC yX5_tieRope cX5_tieRope 5 (some .int) 2 := ⟨wd_508, wd_5, cn_5.1, cn_5.2, pd_4⟩
theorem mcX5_untieRope : MC yX5_untieRope cX5_untieRope 4 (some .int) 1 := ⟨wd_529, wd_5, cn_5.1, cn_5.2, pd_1⟩
theorem mcX5_tiedCount : MC yX5_tiedCount cX5_tiedCount 3 (some .int) 0 := ⟨wd_976, wd_5, cn_5.1, cn_5.2, pd_2⟩
theorem mcX5_setWeight : MC yX5_setWeight cX5_setWeight 4 (some .int) 2 := ⟨wd_542, wd_5, cn_5.1, cn_5.2, pd_4⟩
theorem mcX5_setBound : MC yX5_setBound cX5_setBound 3 (some .int) 1 := ⟨wd_550, wd_5, cn_5.1, cn_5.2, pd_1⟩
theorem mcX5_pullNow : MC yX5_pullNow cX5_pullNow 1 (some .int) 0 := ⟨wd_558, wd_5, cn_5.1, cn_5.2, pd_2⟩
theorem mcX5_place : MC yX5_place cX5_place 5 none 1 := ⟨wd_562, wd_5, cn_5.1, cn_5.2, pd_14⟩
theorem mcX5_trialPull : MC yX5_trialPull cX5_trialPull 3 (some .int) 0 := ⟨wd_577, wd_5, cn_5.1, cn_5.2, pd_2⟩
theorem mcX5_advance : MC yX5_advance cX5_advance 3 none 1 := ⟨wd_642, wd_5, cn_5.1, cn_5.2, pd_14⟩
theorem mcX5_breakRope : MC yX5_breakRope cX5_breakRope 4 (some .int) 1 := ⟨wd_670, wd_5, cn_5.1, cn_5.2, pd_1⟩
theorem pd_20 : (parseMethodDescriptor "(LStageMachine$Thing;II)I").map (fun d => d.parameters.length) = some 3 := by decide +kernel
theorem mcX5_fall : MC yX5_fall cX5_fall 5 (some .int) 3 := ⟨wd_674, wd_5, cn_5.1, cn_5.2, pd_20⟩
theorem pd_21 : (parseMethodDescriptor "(LStageMachine$Thing;I)Z").map (fun d => d.parameters.length) = some 2 := by decide +kernel
theorem mcX5_canFall : MC yX5_canFall cX5_canFall 3 (some .boolean) 2 := ⟨wd_678, wd_5, cn_5.1, cn_5.2, pd_21⟩
theorem pd_22 : (parseMethodDescriptor "(II)Z").map (fun d => d.parameters.length) = some 2 := by decide +kernel
theorem mcX5_isCatch : MC yX5_isCatch cX5_isCatch 4 (some .boolean) 2 := ⟨wd_682, wd_5, cn_5.1, cn_5.2, pd_22⟩
theorem mcX5_addCatch : MC yX5_addCatch cX5_addCatch 4 (some .int) 1 := ⟨wd_690, wd_5, cn_5.1, cn_5.2, pd_1⟩
theorem pd_23 : (parseMethodDescriptor "(I)Z").map (fun d => d.parameters.length) = some 1 := by decide +kernel
theorem mcX5_isStagePlace : MC yX5_isStagePlace cX5_isStagePlace 1 (some .boolean) 1 := ⟨wd_295, wd_5, cn_5.1, cn_5.2, pd_23⟩
theorem mcX5_keep : MC yX5_keep cX5_keep 3 none 0 := ⟨wd_824, wd_5, cn_5.1, cn_5.2, pd_0⟩
theorem mcX5_restore : MC yX5_restore cX5_restore 3 none 0 := ⟨wd_840, wd_5, cn_5.1, cn_5.2, pd_0⟩
theorem cn_6 : "StageMachine$Stock" ≠ "java/lang/invoke/MethodHandle" ∧ "StageMachine$Stock" ≠ "java/lang/invoke/VarHandle" := by decide +kernel
theorem mcX6_init : MC yX6_init cX6_init 1 none 0 := ⟨wd_88, wd_4, cn_6.1, cn_6.2, pd_0⟩
theorem mcX6_addFlat : MC yX6_addFlat cX6_addFlat 3 (some .int) 2 := ⟨wd_889, wd_4, cn_6.1, cn_6.2, pd_4⟩
theorem mcX6_addWant : MC yX6_addWant cX6_addWant 3 (some .int) 2 := ⟨wd_916, wd_4, cn_6.1, cn_6.2, pd_4⟩
theorem mcX6_isPanel : MC yX6_isPanel cX6_isPanel 2 (some .boolean) 2 := ⟨wd_892, wd_4, cn_6.1, cn_6.2, pd_22⟩
theorem mcX6_leastPainting : MC yX6_leastPainting cX6_leastPainting 2 (some .int) 0 := ⟨wd_924, wd_4, cn_6.1, cn_6.2, pd_2⟩
theorem mcX6_leastSum : MC yX6_leastSum cX6_leastSum 3 (some .int) 0 := ⟨wd_929, wd_4, cn_6.1, cn_6.2, pd_2⟩
theorem pd_24 : (parseMethodDescriptor "(ILStageMachine$Panel;)I").map (fun d => d.parameters.length) = some 2 := by decide +kernel
theorem mcX6_leastSumBehind : MC yX6_leastSumBehind cX6_leastSumBehind 5 (some .int) 2 := ⟨wd_939, wd_4, cn_6.1, cn_6.2, pd_24⟩
theorem pd_25 : (parseMethodDescriptor "(IILStageMachine$Panel;)I").map (fun d => d.parameters.length) = some 3 := by decide +kernel
theorem mcX6_sumWith : MC yX6_sumWith cX6_sumWith 5 (some .int) 3 := ⟨wd_943, wd_4, cn_6.1, cn_6.2, pd_25⟩
theorem mcX6_give : MC yX6_give cX6_give 4 none 0 := ⟨wd_960, wd_4, cn_6.1, cn_6.2, pd_0⟩
theorem mcX6_givenTo : MC yX6_givenTo cX6_givenTo 2 (some .int) 1 := ⟨wd_968, wd_4, cn_6.1, cn_6.2, pd_1⟩
theorem cn_7 : "StageMachine$Stop" ≠ "java/lang/invoke/MethodHandle" ∧ "StageMachine$Stop" ≠ "java/lang/invoke/VarHandle" := by decide +kernel
theorem mcX7_init : MC yX7_init cX7_init 1 none 0 := ⟨wd_200, wd_7, cn_7.1, cn_7.2, pd_0⟩
theorem pd_26 : (parseMethodDescriptor "(III)V").map (fun d => d.parameters.length) = some 3 := by decide +kernel
theorem mcX7_put : MC yX7_put cX7_put 4 none 3 := ⟨wd_604, wd_7, cn_7.1, cn_7.2, pd_26⟩
theorem mcX7_tell : MC yX7_tell cX7_tell 2 (some .int) 1 := ⟨wd_657, wd_7, cn_7.1, cn_7.2, pd_1⟩
theorem cn_8 : "StageMachine$Tape" ≠ "java/lang/invoke/MethodHandle" ∧ "StageMachine$Tape" ≠ "java/lang/invoke/VarHandle" := by decide +kernel
theorem mcX8_init : MC yX8_init cX8_init 1 none 0 := ⟨wd_30, wd_2, cn_8.1, cn_8.2, pd_0⟩
theorem mcX8_take : MC yX8_take cX8_take 4 (some .int) 2 := ⟨wd_787, wd_2, cn_8.1, cn_8.2, pd_4⟩
theorem mcX8_readLines : MC yX8_readLines cX8_readLines 1 (some .int) 0 := ⟨wd_796, wd_2, cn_8.1, cn_8.2, pd_2⟩
theorem mcX8_readLine : MC yX8_readLine cX8_readLine 3 (some .boolean) 1 := ⟨wd_800, wd_2, cn_8.1, cn_8.2, pd_23⟩
theorem pd_27 : (parseMethodDescriptor "(IZ)Z").map (fun d => d.parameters.length) = some 2 := by decide +kernel
theorem mcX8_readOne : MC yX8_readOne cX8_readOne 3 (some .boolean) 2 := ⟨wd_820, wd_2, cn_8.1, cn_8.2, pd_27⟩
theorem mcX8_readTwo : MC yX8_readTwo cX8_readTwo 3 (some .boolean) 2 := ⟨wd_808, wd_2, cn_8.1, cn_8.2, pd_27⟩
theorem pd_28 : (parseMethodDescriptor "(Z)Z").map (fun d => d.parameters.length) = some 1 := by decide +kernel
theorem mcX8_readNumber : MC yX8_readNumber cX8_readNumber 4 (some .boolean) 1 := ⟨wd_812, wd_2, cn_8.1, cn_8.2, pd_28⟩
theorem mcX8_readSign : MC yX8_readSign cX8_readSign 2 (some .boolean) 1 := ⟨wd_816, wd_2, cn_8.1, cn_8.2, pd_23⟩
theorem mcX8_peek : MC yX8_peek cX8_peek 1 (some .int) 0 := ⟨wd_804, wd_2, cn_8.1, cn_8.2, pd_2⟩
theorem pd_29 : (parseMethodDescriptor "(IIIIIII)V").map (fun d => d.parameters.length) = some 7 := by decide +kernel
theorem cn_9 : "StageMachine$Thing" ≠ "java/lang/invoke/MethodHandle" ∧ "StageMachine$Thing" ≠ "java/lang/invoke/VarHandle" := by decide +kernel
theorem mcX9_init : MC yX9_init cX9_init 8 none 7 := ⟨wd_306, wd_10, cn_9.1, cn_9.2, pd_29⟩
theorem mcX9_tell : MC yX9_tell cX9_tell 2 (some .int) 1 := ⟨wd_379, wd_10, cn_9.1, cn_9.2, pd_1⟩
theorem mcX9_tellScene : MC yX9_tellScene cX9_tellScene 5 (some .int) 2 := ⟨wd_698, wd_10, cn_9.1, cn_9.2, pd_4⟩
theorem mcX9_covers : MC yX9_covers cX9_covers 2 (some .boolean) 1 := ⟨wd_391, wd_10, cn_9.1, cn_9.2, pd_23⟩
theorem pd_30 : (parseMethodDescriptor "(LStageMachine$Thing;)Z").map (fun d => d.parameters.length) = some 1 := by decide +kernel
theorem mcX9_wouldMeet : MC yX9_wouldMeet cX9_wouldMeet 2 (some .boolean) 1 := ⟨wd_618, wd_10, cn_9.1, cn_9.2, pd_30⟩
theorem cn_10 : "StageMachine$Turning" ≠ "java/lang/invoke/MethodHandle" ∧ "StageMachine$Turning" ≠ "java/lang/invoke/VarHandle" := by decide +kernel
theorem mcX10_init : MC yX10_init cX10_init 2 none 1 := ⟨wd_194, wd_6, cn_10.1, cn_10.2, pd_3⟩
theorem mcX10_turnBy : MC yX10_turnBy cX10_turnBy 3 (some .int) 1 := ⟨wd_593, wd_6, cn_10.1, cn_10.2, pd_1⟩
theorem mcX10_lookAhead : MC yX10_lookAhead cX10_lookAhead 5 (some .int) 1 := ⟨wd_597, wd_6, cn_10.1, cn_10.2, pd_1⟩
theorem mcX10_stepsToNextMove : MC yX10_stepsToNextMove cX10_stepsToNextMove 5 (some .int) 2 := ⟨wd_628, wd_6, cn_10.1, cn_10.2, pd_4⟩
theorem pd_31 : (parseMethodDescriptor "()Z").map (fun d => d.parameters.length) = some 0 := by decide +kernel
theorem mcX10_isBeyond : MC yX10_isBeyond cX10_isBeyond 3 (some .boolean) 0 := ⟨wd_609, wd_6, cn_10.1, cn_10.2, pd_31⟩
theorem mcX10_isMeeting : MC yX10_isMeeting cX10_isMeeting 3 (some .boolean) 0 := ⟨wd_614, wd_6, cn_10.1, cn_10.2, pd_31⟩
theorem mcX10_isUneven : MC yX10_isUneven cX10_isUneven 2 (some .boolean) 1 := ⟨wd_624, wd_6, cn_10.1, cn_10.2, pd_23⟩
theorem cn_11 : "StageMachine" ≠ "java/lang/invoke/MethodHandle" ∧ "StageMachine" ≠ "java/lang/invoke/VarHandle" := by decide +kernel
theorem mcX11_init : MC yX11_init cX11_init 2 none 0 := ⟨wd_22, wd_1, cn_11.1, cn_11.2, pd_0⟩
theorem mcX11_thing : MC yX11_thing cX11_thing 6 (some .int) 4 := ⟨wd_285, wd_1, cn_11.1, cn_11.2, pd_8⟩
theorem mcX11_ofThing : MC yX11_ofThing cX11_ofThing 4 (some .int) 2 := ⟨wd_371, wd_1, cn_11.1, cn_11.2, pd_4⟩
theorem mcX11_on : MC yX11_on cX11_on 2 (some .int) 1 := ⟨wd_383, wd_1, cn_11.1, cn_11.2, pd_1⟩
theorem mcX11_drum : MC yX11_drum cX11_drum 3 (some .int) 1 := ⟨wd_395, wd_1, cn_11.1, cn_11.2, pd_1⟩
theorem mcX11_rope : MC yX11_rope cX11_rope 5 (some .int) 3 := ⟨wd_419, wd_1, cn_11.1, cn_11.2, pd_9⟩
theorem mcX11_ofRope : MC yX11_ofRope cX11_ofRope 4 (some .int) 2 := ⟨wd_483, wd_1, cn_11.1, cn_11.2, pd_4⟩
theorem mcX11_tie : MC yX11_tie cX11_tie 4 (some .int) 2 := ⟨wd_504, wd_1, cn_11.1, cn_11.2, pd_4⟩
theorem mcX11_untie : MC yX11_untie cX11_untie 3 (some .int) 1 := ⟨wd_525, wd_1, cn_11.1, cn_11.2, pd_1⟩
theorem mcX11_weight : MC yX11_weight cX11_weight 4 (some .int) 2 := ⟨wd_538, wd_1, cn_11.1, cn_11.2, pd_4⟩
theorem mcX11_bound : MC yX11_bound cX11_bound 2 (some .int) 1 := ⟨wd_546, wd_1, cn_11.1, cn_11.2, pd_1⟩
theorem mcX11_pull : MC yX11_pull cX11_pull 1 (some .int) 0 := ⟨wd_554, wd_1, cn_11.1, cn_11.2, pd_2⟩
theorem mcX11_turn : MC yX11_turn cX11_turn 3 (some .int) 1 := ⟨wd_585, wd_1, cn_11.1, cn_11.2, pd_1⟩
theorem mcX11_stopped : MC yX11_stopped cX11_stopped 2 (some .int) 1 := ⟨wd_653, wd_1, cn_11.1, cn_11.2, pd_1⟩
theorem mcX11_free : MC yX11_free cX11_free 2 (some .int) 1 := ⟨wd_661, wd_1, cn_11.1, cn_11.2, pd_1⟩
theorem mcX11_snap : MC yX11_snap cX11_snap 3 (some .int) 1 := ⟨wd_666, wd_1, cn_11.1, cn_11.2, pd_1⟩
theorem mcX11_hold : MC yX11_hold cX11_hold 2 (some .int) 1 := ⟨wd_686, wd_1, cn_11.1, cn_11.2, pd_1⟩
theorem mcX11_scene : MC yX11_scene cX11_scene 5 (some .int) 3 := ⟨wd_694, wd_1, cn_11.1, cn_11.2, pd_9⟩
theorem mcX11_change : MC yX11_change cX11_change 3 (some .int) 2 := ⟨wd_703, wd_1, cn_11.1, cn_11.2, pd_4⟩
theorem mcX11_told : MC yX11_told cX11_told 3 (some .int) 2 := ⟨wd_732, wd_1, cn_11.1, cn_11.2, pd_4⟩
theorem mcX11_work : MC yX11_work cX11_work 2 (some .int) 1 := ⟨wd_741, wd_1, cn_11.1, cn_11.2, pd_1⟩
theorem mcX11_men : MC yX11_men cX11_men 2 (some .int) 1 := ⟨wd_753, wd_1, cn_11.1, cn_11.2, pd_1⟩
theorem mcX11_feed : MC yX11_feed cX11_feed 3 (some .int) 2 := ⟨wd_783, wd_1, cn_11.1, cn_11.2, pd_4⟩
theorem mcX11_play : MC yX11_play cX11_play 4 (some .int) 0 := ⟨wd_792, wd_1, cn_11.1, cn_11.2, pd_2⟩
theorem mcX11_back : MC yX11_back cX11_back 1 (some .int) 0 := ⟨wd_836, wd_1, cn_11.1, cn_11.2, pd_2⟩
theorem mcX11_candle : MC yX11_candle cX11_candle 2 (some .int) 1 := ⟨wd_844, wd_1, cn_11.1, cn_11.2, pd_1⟩
theorem mcX11_minutes : MC yX11_minutes cX11_minutes 2 (some .int) 1 := ⟨wd_853, wd_1, cn_11.1, cn_11.2, pd_1⟩
theorem mcX11_trim : MC yX11_trim cX11_trim 2 (some .int) 1 := ⟨wd_861, wd_1, cn_11.1, cn_11.2, pd_1⟩
theorem mcX11_light : MC yX11_light cX11_light 2 (some .int) 1 := ⟨wd_869, wd_1, cn_11.1, cn_11.2, pd_1⟩
theorem mcX11_flat : MC yX11_flat cX11_flat 3 (some .int) 2 := ⟨wd_885, wd_1, cn_11.1, cn_11.2, pd_4⟩
theorem mcX11_want : MC yX11_want cX11_want 3 (some .int) 2 := ⟨wd_912, wd_1, cn_11.1, cn_11.2, pd_4⟩
theorem mcX11_paint : MC yX11_paint cX11_paint 1 (some .int) 0 := ⟨wd_920, wd_1, cn_11.1, cn_11.2, pd_2⟩
theorem mcX11_given : MC yX11_given cX11_given 2 (some .int) 1 := ⟨wd_964, wd_1, cn_11.1, cn_11.2, pd_1⟩
theorem mcX11_count : MC yX11_count cX11_count 2 (some .int) 1 := ⟨wd_972, wd_1, cn_11.1, cn_11.2, pd_1⟩
theorem pd_32 : (parseMethodDescriptor "(IZ)I").map (fun d => d.parameters.length) = some 2 := by decide +kernel
theorem mcX11_deed : MC yX11_deed cX11_deed 3 (some .int) 2 := ⟨wd_367, wd_1, cn_11.1, cn_11.2, pd_32⟩
theorem mcX11_playLine : MC yX11_playLine cX11_playLine 4 (some .int) 1 := ⟨wd_831, wd_1, cn_11.1, cn_11.2, pd_1⟩
theorem mcX11_isTurn : MC yX11_isTurn cX11_isTurn 1 (some .boolean) 1 := ⟨wd_588, wd_1, cn_11.1, cn_11.2, pd_23⟩
theorem pd_33 : (parseMethodDescriptor "(III)Z").map (fun d => d.parameters.length) = some 3 := by decide +kernel
theorem mcX11_isWithin : MC yX11_isWithin cX11_isWithin 3 (some .boolean) 3 := ⟨wd_292, wd_1, cn_11.1, cn_11.2, pd_33⟩
theorem mcX11_quotient : MC yX11_quotient cX11_quotient 2 (some .int) 2 := ⟨wd_573, wd_1, cn_11.1, cn_11.2, pd_4⟩
theorem mcX11_quotientUp : MC yX11_quotientUp cX11_quotientUp 2 (some .int) 2 := ⟨wd_499, wd_1, cn_11.1, cn_11.2, pd_4⟩
theorem pd_34 : (parseMethodDescriptor "(IIII)Z").map (fun d => d.parameters.length) = some 4 := by decide +kernel
theorem mcX11_overlap : MC yX11_overlap cX11_overlap 4 (some .boolean) 4 := ⟨wd_302, wd_1, cn_11.1, cn_11.2, pd_34⟩
theorem cn_12 : "StageMachineModel" ≠ "java/lang/invoke/MethodHandle" ∧ "StageMachineModel" ≠ "java/lang/invoke/VarHandle" := by decide +kernel
theorem mcX12_init : MC yX12_init cX12_init 1 none 0 := ⟨wd_981, wd_9, cn_12.1, cn_12.2, pd_0⟩
theorem mcX12_in : MC yX12_in cX12_in 3 (some .boolean) 3 := ⟨wd_1187, wd_9, cn_12.1, cn_12.2, pd_33⟩
theorem mcX12_isThing : MC yX12_isThing cX12_isThing 2 (some .boolean) 1 := ⟨wd_1195, wd_9, cn_12.1, cn_12.2, pd_23⟩
theorem mcX12_isRope : MC yX12_isRope cX12_isRope 2 (some .boolean) 1 := ⟨wd_1219, wd_9, cn_12.1, cn_12.2, pd_23⟩
theorem mcX12_isDrum : MC yX12_isDrum cX12_isDrum 2 (some .boolean) 1 := ⟨wd_1236, wd_9, cn_12.1, cn_12.2, pd_23⟩
theorem mcX12_meets : MC yX12_meets cX12_meets 4 (some .boolean) 3 := ⟨wd_1287, wd_9, cn_12.1, cn_12.2, pd_33⟩
theorem mcX12_other : MC yX12_other cX12_other 4 (some .int) 2 := ⟨wd_1283, wd_9, cn_12.1, cn_12.2, pd_4⟩
theorem mcX12_thing : MC yX12_thing cX12_thing 8 (some .int) 4 := ⟨wd_1184, wd_9, cn_12.1, cn_12.2, pd_8⟩
theorem mcX12_tiedTo : MC yX12_tiedTo cX12_tiedTo 3 (some .int) 1 := ⟨wd_1199, wd_9, cn_12.1, cn_12.2, pd_1⟩
theorem mcX12_ofThing : MC yX12_ofThing cX12_ofThing 3 (some .int) 2 := ⟨wd_1191, wd_9, cn_12.1, cn_12.2, pd_4⟩
theorem mcX12_on : MC yX12_on cX12_on 3 (some .int) 1 := ⟨wd_1203, wd_9, cn_12.1, cn_12.2, pd_1⟩
theorem mcX12_drum : MC yX12_drum cX12_drum 2 (some .int) 1 := ⟨wd_1207, wd_9, cn_12.1, cn_12.2, pd_1⟩
theorem mcX12_rope : MC yX12_rope cX12_rope 4 (some .int) 3 := ⟨wd_1211, wd_9, cn_12.1, cn_12.2, pd_9⟩
theorem mcX12_load : MC yX12_load cX12_load 2 (some .int) 1 := ⟨wd_1224, wd_9, cn_12.1, cn_12.2, pd_1⟩
theorem mcX12_ofRope : MC yX12_ofRope cX12_ofRope 3 (some .int) 2 := ⟨wd_1215, wd_9, cn_12.1, cn_12.2, pd_4⟩
theorem mcX12_tieNow : MC yX12_tieNow cX12_tieNow 3 (some .int) 2 := ⟨wd_1232, wd_9, cn_12.1, cn_12.2, pd_4⟩
theorem mcX12_tie : MC yX12_tie cX12_tie 4 (some .int) 2 := ⟨wd_1228, wd_9, cn_12.1, cn_12.2, pd_4⟩
theorem mcX12_untieNow : MC yX12_untieNow cX12_untieNow 2 (some .int) 1 := ⟨wd_1244, wd_9, cn_12.1, cn_12.2, pd_1⟩
theorem mcX12_untie : MC yX12_untie cX12_untie 3 (some .int) 1 := ⟨wd_1240, wd_9, cn_12.1, cn_12.2, pd_1⟩
theorem mcX12_weighNow : MC yX12_weighNow cX12_weighNow 4 (some .int) 2 := ⟨wd_1252, wd_9, cn_12.1, cn_12.2, pd_4⟩
theorem mcX12_weight : MC yX12_weight cX12_weight 4 (some .int) 2 := ⟨wd_1248, wd_9, cn_12.1, cn_12.2, pd_4⟩
theorem mcX12_bound : MC yX12_bound cX12_bound 3 (some .int) 1 := ⟨wd_1256, wd_9, cn_12.1, cn_12.2, pd_1⟩
theorem mcX12_pull : MC yX12_pull cX12_pull 4 (some .int) 0 := ⟨wd_1260, wd_9, cn_12.1, cn_12.2, pd_2⟩
theorem mcX12_place : MC yX12_place cX12_place 4 none 1 := ⟨wd_1275, wd_9, cn_12.1, cn_12.2, pd_14⟩
theorem mcX12_find : MC yX12_find cX12_find 2 none 0 := ⟨wd_1279, wd_9, cn_12.1, cn_12.2, pd_0⟩
theorem mcX12_turnNow : MC yX12_turnNow cX12_turnNow 5 (some .int) 1 := ⟨wd_1271, wd_9, cn_12.1, cn_12.2, pd_1⟩
theorem mcX12_isTurn : MC yX12_isTurn cX12_isTurn 1 (some .boolean) 1 := ⟨wd_1267, wd_9, cn_12.1, cn_12.2, pd_23⟩
theorem mcX12_turn : MC yX12_turn cX12_turn 3 (some .int) 1 := ⟨wd_1264, wd_9, cn_12.1, cn_12.2, pd_1⟩
theorem mcX12_stopped : MC yX12_stopped cX12_stopped 2 (some .int) 1 := ⟨wd_1292, wd_9, cn_12.1, cn_12.2, pd_1⟩
theorem mcX12_free : MC yX12_free cX12_free 9 (some .int) 1 := ⟨wd_1296, wd_9, cn_12.1, cn_12.2, pd_1⟩
theorem mcX12_isCaught : MC yX12_isCaught cX12_isCaught 4 (some .boolean) 2 := ⟨wd_1304, wd_9, cn_12.1, cn_12.2, pd_22⟩
theorem mcX12_hold : MC yX12_hold cX12_hold 3 (some .int) 1 := ⟨wd_1300, wd_9, cn_12.1, cn_12.2, pd_1⟩
theorem mcX12_snap : MC yX12_snap cX12_snap 5 (some .int) 1 := ⟨wd_1308, wd_9, cn_12.1, cn_12.2, pd_1⟩
theorem mcX12_scene : MC yX12_scene cX12_scene 5 (some .int) 3 := ⟨wd_1312, wd_9, cn_12.1, cn_12.2, pd_9⟩
theorem mcX12_brings : MC yX12_brings cX12_brings 6 (some .boolean) 3 := ⟨wd_1320, wd_9, cn_12.1, cn_12.2, pd_33⟩
theorem mcX12_workOf : MC yX12_workOf cX12_workOf 3 (some .int) 1 := ⟨wd_1324, wd_9, cn_12.1, cn_12.2, pd_1⟩
theorem mcX12_change : MC yX12_change cX12_change 6 (some .int) 2 := ⟨wd_1316, wd_9, cn_12.1, cn_12.2, pd_4⟩
theorem mcX12_told : MC yX12_told cX12_told 3 (some .int) 2 := ⟨wd_1328, wd_9, cn_12.1, cn_12.2, pd_4⟩
theorem mcX12_work : MC yX12_work cX12_work 4 (some .int) 1 := ⟨wd_1332, wd_9, cn_12.1, cn_12.2, pd_1⟩
theorem mcX12_menFor : MC yX12_menFor cX12_menFor 13 (some .int) 4 := ⟨wd_1340, wd_9, cn_12.1, cn_12.2, pd_8⟩
theorem mcX12_men : MC yX12_men cX12_men 6 (some .int) 1 := ⟨wd_1336, wd_9, cn_12.1, cn_12.2, pd_1⟩
theorem mcX12_feed : MC yX12_feed cX12_feed 4 (some .int) 2 := ⟨wd_1344, wd_9, cn_12.1, cn_12.2, pd_4⟩
theorem mcX12_look : MC yX12_look cX12_look 1 (some .int) 0 := ⟨wd_1356, wd_9, cn_12.1, cn_12.2, pd_2⟩
theorem mcX12_takes : MC yX12_takes cX12_takes 4 (some .boolean) 1 := ⟨wd_1360, wd_9, cn_12.1, cn_12.2, pd_28⟩
theorem mcX12_line : MC yX12_line cX12_line 2 (some .boolean) 0 := ⟨wd_1352, wd_9, cn_12.1, cn_12.2, pd_31⟩
theorem mcX12_keep : MC yX12_keep cX12_keep 2 none 0 := ⟨wd_1364, wd_9, cn_12.1, cn_12.2, pd_0⟩
theorem mcX12_play : MC yX12_play cX12_play 5 (some .int) 0 := ⟨wd_1348, wd_9, cn_12.1, cn_12.2, pd_2⟩
theorem mcX12_back : MC yX12_back cX12_back 2 (some .int) 0 := ⟨wd_1368, wd_9, cn_12.1, cn_12.2, pd_2⟩
theorem mcX12_left : MC yX12_left cX12_left 2 (some .int) 1 := ⟨wd_1384, wd_9, cn_12.1, cn_12.2, pd_1⟩
theorem mcX12_candle : MC yX12_candle cX12_candle 2 (some .int) 1 := ⟨wd_1372, wd_9, cn_12.1, cn_12.2, pd_1⟩
theorem mcX12_minutes : MC yX12_minutes cX12_minutes 2 (some .int) 1 := ⟨wd_1376, wd_9, cn_12.1, cn_12.2, pd_1⟩
theorem mcX12_trim : MC yX12_trim cX12_trim 4 (some .int) 1 := ⟨wd_1380, wd_9, cn_12.1, cn_12.2, pd_1⟩
theorem mcX12_light : MC yX12_light cX12_light 5 (some .int) 1 := ⟨wd_1388, wd_9, cn_12.1, cn_12.2, pd_1⟩
theorem mcX12_isSize : MC yX12_isSize cX12_isSize 1 (some .boolean) 1 := ⟨wd_1395, wd_9, cn_12.1, cn_12.2, pd_23⟩
theorem mcX12_flat : MC yX12_flat cX12_flat 3 (some .int) 2 := ⟨wd_1392, wd_9, cn_12.1, cn_12.2, pd_4⟩
theorem mcX12_want : MC yX12_want cX12_want 3 (some .int) 2 := ⟨wd_1399, wd_9, cn_12.1, cn_12.2, pd_4⟩
theorem mcX12_area : MC yX12_area cX12_area 1 (some .int) 1 := ⟨wd_1410, wd_9, cn_12.1, cn_12.2, pd_1⟩
theorem mcX12_cost : MC yX12_cost cX12_cost 3 (some .int) 2 := ⟨wd_1407, wd_9, cn_12.1, cn_12.2, pd_4⟩
theorem mcX12_isTaken : MC yX12_isTaken cX12_isTaken 3 (some .boolean) 1 := ⟨wd_1414, wd_9, cn_12.1, cn_12.2, pd_23⟩
theorem mcX12_costTo : MC yX12_costTo cX12_costTo 4 (some .int) 1 := ⟨wd_1418, wd_9, cn_12.1, cn_12.2, pd_1⟩
theorem mcX12_paint : MC yX12_paint cX12_paint 5 (some .int) 0 := ⟨wd_1403, wd_9, cn_12.1, cn_12.2, pd_2⟩
theorem mcX12_given : MC yX12_given cX12_given 2 (some .int) 1 := ⟨wd_1422, wd_9, cn_12.1, cn_12.2, pd_1⟩
theorem mcX12_count : MC yX12_count cX12_count 4 (some .int) 1 := ⟨wd_1426, wd_9, cn_12.1, cn_12.2, pd_1⟩
theorem cn_13 : "java/lang/Integer" ≠ "java/lang/invoke/MethodHandle" ∧ "java/lang/Integer" ≠ "java/lang/invoke/VarHandle" := by decide +kernel
theorem mcJ6_bitCount_0f7a4 : MC yJ6_bitCount_0f7a4 cJ6_bitCount_0f7a4 1 (some .int) 1 := ⟨wd_932, wd_17, cn_13.1, cn_13.2, pd_1⟩
theorem pd_35 : (parseMethodDescriptor "([II)V").map (fun d => d.parameters.length) = some 2 := by decide +kernel
theorem cn_14 : "java/util/Arrays" ≠ "java/lang/invoke/MethodHandle" ∧ "java/util/Arrays" ≠ "java/lang/invoke/VarHandle" := by decide +kernel
theorem mcJ7_fill_53178 : MC yJ7_fill_53178 cJ7_fill_53178 4 none 2 := ⟨wd_310, wd_11, cn_14.1, cn_14.2, pd_35⟩
