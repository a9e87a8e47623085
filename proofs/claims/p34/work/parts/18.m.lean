theorem dgX12_init_0 : (decode cX12_init 0 = .ok (.aload_n 0, 1)) ∧ (decode cX12_init 1 = .ok (.invokespecial 1, 3)) ∧ (decode cX12_init 4 = .ok (.aload_n 0, 1)) ∧ (decode cX12_init 5 = .ok (.bipush 40, 2)) ∧ (decode cX12_init 7 = .ok (.newarray .int, 2)) ∧ (decode cX12_init 9 = .ok (.putfield 7, 3)) ∧ (decode cX12_init 12 = .ok (.aload_n 0, 1)) ∧ (decode cX12_init 13 = .ok (.bipush 40, 2)) ∧ (decode cX12_init 15 = .ok (.newarray .int, 2)) ∧ (decode cX12_init 17 = .ok (.putfield 13, 3)) ∧ (decode cX12_init 20 = .ok (.aload_n 0, 1)) ∧ (decode cX12_init 21 = .ok (.bipush 40, 2)) ∧ True := dkW [(0, .aload_n 0, 1), (1, .invokespecial 1, 3), (4, .aload_n 0, 1), (5, .bipush 40, 2), (7, .newarray .int, 2), (9, .putfield 7, 3), (12, .aload_n 0, 1), (13, .bipush 40, 2), (15, .newarray .int, 2), (17, .putfield 13, 3), (20, .aload_n 0, 1), (21, .bipush 40, 2)] 0 (by decide +kernel)
theorem dX12_init_0 : decode cX12_init 0 = .ok (.aload_n 0, 1) := dgX12_init_0.1
theorem dX12_init_1 : decode cX12_init 1 = .ok (.invokespecial 1, 3) := dgX12_init_0.2.1
theorem dX12_init_4 : decode cX12_init 4 = .ok (.aload_n 0, 1) := dgX12_init_0.2.2.1
theorem dX12_init_5 : decode cX12_init 5 = .ok (.bipush 40, 2) := dgX12_init_0.2.2.2.1
theorem dX12_init_7 : decode cX12_init 7 = .ok (.newarray .int, 2) := dgX12_init_0.2.2.2.2.1
theorem dX12_init_9 : decode cX12_init 9 = .ok (.putfield 7, 3) := dgX12_init_0.2.2.2.2.2.1
theorem dX12_init_12 : decode cX12_init 12 = .ok (.aload_n 0, 1) := dgX12_init_0.2.2.2.2.2.2.1
theorem dX12_init_13 : decode cX12_init 13 = .ok (.bipush 40, 2) := dgX12_init_0.2.2.2.2.2.2.2.1
theorem dX12_init_15 : decode cX12_init 15 = .ok (.newarray .int, 2) := dgX12_init_0.2.2.2.2.2.2.2.2.1
theorem dX12_init_17 : decode cX12_init 17 = .ok (.putfield 13, 3) := dgX12_init_0.2.2.2.2.2.2.2.2.2.1
theorem dX12_init_20 : decode cX12_init 20 = .ok (.aload_n 0, 1) := dgX12_init_0.2.2.2.2.2.2.2.2.2.2.1
theorem dX12_init_21 : decode cX12_init 21 = .ok (.bipush 40, 2) := dgX12_init_0.2.2.2.2.2.2.2.2.2.2.2.1
theorem dgX12_init_23 : (decode cX12_init 23 = .ok (.newarray .int, 2)) ∧ (decode cX12_init 25 = .ok (.putfield 16, 3)) ∧ (decode cX12_init 28 = .ok (.aload_n 0, 1)) ∧ (decode cX12_init 29 = .ok (.bipush 40, 2)) ∧ (decode cX12_init 31 = .ok (.newarray .int, 2)) ∧ (decode cX12_init 33 = .ok (.putfield 19, 3)) ∧ (decode cX12_init 36 = .ok (.aload_n 0, 1)) ∧ (decode cX12_init 37 = .ok (.bipush 40, 2)) ∧ (decode cX12_init 39 = .ok (.newarray .int, 2)) ∧ (decode cX12_init 41 = .ok (.putfield 22, 3)) ∧ (decode cX12_init 44 = .ok (.aload_n 0, 1)) ∧ (decode cX12_init 45 = .ok (.bipush 40, 2)) ∧ True := dkW [(23, .newarray .int, 2), (25, .putfield 16, 3), (28, .aload_n 0, 1), (29, .bipush 40, 2), (31, .newarray .int, 2), (33, .putfield 19, 3), (36, .aload_n 0, 1), (37, .bipush 40, 2), (39, .newarray .int, 2), (41, .putfield 22, 3), (44, .aload_n 0, 1), (45, .bipush 40, 2)] 23 (by decide +kernel)
theorem dX12_init_23 : decode cX12_init 23 = .ok (.newarray .int, 2) := dgX12_init_23.1
theorem dX12_init_25 : decode cX12_init 25 = .ok (.putfield 16, 3) := dgX12_init_23.2.1
theorem dX12_init_28 : decode cX12_init 28 = .ok (.aload_n 0, 1) := dgX12_init_23.2.2.1
theorem dX12_init_29 : decode cX12_init 29 = .ok (.bipush 40, 2) := dgX12_init_23.2.2.2.1
theorem dX12_init_31 : decode cX12_init 31 = .ok (.newarray .int, 2) := dgX12_init_23.2.2.2.2.1
theorem dX12_init_33 : decode cX12_init 33 = .ok (.putfield 19, 3) := dgX12_init_23.2.2.2.2.2.1
theorem dX12_init_36 : decode cX12_init 36 = .ok (.aload_n 0, 1) := dgX12_init_23.2.2.2.2.2.2.1
theorem dX12_init_37 : decode cX12_init 37 = .ok (.bipush 40, 2) := dgX12_init_23.2.2.2.2.2.2.2.1
theorem dX12_init_39 : decode cX12_init 39 = .ok (.newarray .int, 2) := dgX12_init_23.2.2.2.2.2.2.2.2.1
theorem dX12_init_41 : decode cX12_init 41 = .ok (.putfield 22, 3) := dgX12_init_23.2.2.2.2.2.2.2.2.2.1
theorem dX12_init_44 : decode cX12_init 44 = .ok (.aload_n 0, 1) := dgX12_init_23.2.2.2.2.2.2.2.2.2.2.1
theorem dX12_init_45 : decode cX12_init 45 = .ok (.bipush 40, 2) := dgX12_init_23.2.2.2.2.2.2.2.2.2.2.2.1
theorem dgX12_init_47 : (decode cX12_init 47 = .ok (.newarray .int, 2)) ∧ (decode cX12_init 49 = .ok (.putfield 25, 3)) ∧ (decode cX12_init 52 = .ok (.aload_n 0, 1)) ∧ (decode cX12_init 53 = .ok (.bipush 40, 2)) ∧ (decode cX12_init 55 = .ok (.newarray .int, 2)) ∧ (decode cX12_init 57 = .ok (.putfield 28, 3)) ∧ (decode cX12_init 60 = .ok (.aload_n 0, 1)) ∧ (decode cX12_init 61 = .ok (.bipush 20, 2)) ∧ (decode cX12_init 63 = .ok (.newarray .int, 2)) ∧ (decode cX12_init 65 = .ok (.putfield 31, 3)) ∧ (decode cX12_init 68 = .ok (.aload_n 0, 1)) ∧ (decode cX12_init 69 = .ok (.bipush 40, 2)) ∧ True := dkW [(47, .newarray .int, 2), (49, .putfield 25, 3), (52, .aload_n 0, 1), (53, .bipush 40, 2), (55, .newarray .int, 2), (57, .putfield 28, 3), (60, .aload_n 0, 1), (61, .bipush 20, 2), (63, .newarray .int, 2), (65, .putfield 31, 3), (68, .aload_n 0, 1), (69, .bipush 40, 2)] 47 (by decide +kernel)
theorem dX12_init_47 : decode cX12_init 47 = .ok (.newarray .int, 2) := dgX12_init_47.1
theorem dX12_init_49 : decode cX12_init 49 = .ok (.putfield 25, 3) := dgX12_init_47.2.1
theorem dX12_init_52 : decode cX12_init 52 = .ok (.aload_n 0, 1) := dgX12_init_47.2.2.1
theorem dX12_init_53 : decode cX12_init 53 = .ok (.bipush 40, 2) := dgX12_init_47.2.2.2.1
theorem dX12_init_55 : decode cX12_init 55 = .ok (.newarray .int, 2) := dgX12_init_47.2.2.2.2.1
theorem dX12_init_57 : decode cX12_init 57 = .ok (.putfield 28, 3) := dgX12_init_47.2.2.2.2.2.1
theorem dX12_init_60 : decode cX12_init 60 = .ok (.aload_n 0, 1) := dgX12_init_47.2.2.2.2.2.2.1
theorem dX12_init_61 : decode cX12_init 61 = .ok (.bipush 20, 2) := dgX12_init_47.2.2.2.2.2.2.2.1
theorem dX12_init_63 : decode cX12_init 63 = .ok (.newarray .int, 2) := dgX12_init_47.2.2.2.2.2.2.2.2.1
theorem dX12_init_65 : decode cX12_init 65 = .ok (.putfield 31, 3) := dgX12_init_47.2.2.2.2.2.2.2.2.2.1
theorem dX12_init_68 : decode cX12_init 68 = .ok (.aload_n 0, 1) := dgX12_init_47.2.2.2.2.2.2.2.2.2.2.1
theorem dX12_init_69 : decode cX12_init 69 = .ok (.bipush 40, 2) := dgX12_init_47.2.2.2.2.2.2.2.2.2.2.2.1
theorem dgX12_init_71 : (decode cX12_init 71 = .ok (.newarray .int, 2)) ∧ (decode cX12_init 73 = .ok (.putfield 34, 3)) ∧ (decode cX12_init 76 = .ok (.aload_n 0, 1)) ∧ (decode cX12_init 77 = .ok (.bipush 40, 2)) ∧ (decode cX12_init 79 = .ok (.newarray .int, 2)) ∧ (decode cX12_init 81 = .ok (.putfield 37, 3)) ∧ (decode cX12_init 84 = .ok (.aload_n 0, 1)) ∧ (decode cX12_init 85 = .ok (.bipush 40, 2)) ∧ (decode cX12_init 87 = .ok (.newarray .int, 2)) ∧ (decode cX12_init 89 = .ok (.putfield 40, 3)) ∧ (decode cX12_init 92 = .ok (.aload_n 0, 1)) ∧ (decode cX12_init 93 = .ok (.bipush 40, 2)) ∧ True := dkW [(71, .newarray .int, 2), (73, .putfield 34, 3), (76, .aload_n 0, 1), (77, .bipush 40, 2), (79, .newarray .int, 2), (81, .putfield 37, 3), (84, .aload_n 0, 1), (85, .bipush 40, 2), (87, .newarray .int, 2), (89, .putfield 40, 3), (92, .aload_n 0, 1), (93, .bipush 40, 2)] 71 (by decide +kernel)
theorem dX12_init_71 : decode cX12_init 71 = .ok (.newarray .int, 2) := dgX12_init_71.1
theorem dX12_init_73 : decode cX12_init 73 = .ok (.putfield 34, 3) := dgX12_init_71.2.1
theorem dX12_init_76 : decode cX12_init 76 = .ok (.aload_n 0, 1) := dgX12_init_71.2.2.1
theorem dX12_init_77 : decode cX12_init 77 = .ok (.bipush 40, 2) := dgX12_init_71.2.2.2.1
theorem dX12_init_79 : decode cX12_init 79 = .ok (.newarray .int, 2) := dgX12_init_71.2.2.2.2.1
theorem dX12_init_81 : decode cX12_init 81 = .ok (.putfield 37, 3) := dgX12_init_71.2.2.2.2.2.1
theorem dX12_init_84 : decode cX12_init 84 = .ok (.aload_n 0, 1) := dgX12_init_71.2.2.2.2.2.2.1
theorem dX12_init_85 : decode cX12_init 85 = .ok (.bipush 40, 2) := dgX12_init_71.2.2.2.2.2.2.2.1
theorem dX12_init_87 : decode cX12_init 87 = .ok (.newarray .int, 2) := dgX12_init_71.2.2.2.2.2.2.2.2.1
theorem dX12_init_89 : decode cX12_init 89 = .ok (.putfield 40, 3) := dgX12_init_71.2.2.2.2.2.2.2.2.2.1
theorem dX12_init_92 : decode cX12_init 92 = .ok (.aload_n 0, 1) := dgX12_init_71.2.2.2.2.2.2.2.2.2.2.1
theorem dX12_init_93 : decode cX12_init 93 = .ok (.bipush 40, 2) := dgX12_init_71.2.2.2.2.2.2.2.2.2.2.2.1
theorem dgX12_init_95 : (decode cX12_init 95 = .ok (.newarray .int, 2)) ∧ (decode cX12_init 97 = .ok (.putfield 43, 3)) ∧ (decode cX12_init 100 = .ok (.aload_n 0, 1)) ∧ (decode cX12_init 101 = .ok (.bipush 40, 2)) ∧ (decode cX12_init 103 = .ok (.newarray .int, 2)) ∧ (decode cX12_init 105 = .ok (.putfield 46, 3)) ∧ (decode cX12_init 108 = .ok (.aload_n 0, 1)) ∧ (decode cX12_init 109 = .ok (.bipush 40, 2)) ∧ (decode cX12_init 111 = .ok (.newarray .int, 2)) ∧ (decode cX12_init 113 = .ok (.putfield 49, 3)) ∧ (decode cX12_init 116 = .ok (.aload_n 0, 1)) ∧ (decode cX12_init 117 = .ok (.bipush 40, 2)) ∧ True := dkW [(95, .newarray .int, 2), (97, .putfield 43, 3), (100, .aload_n 0, 1), (101, .bipush 40, 2), (103, .newarray .int, 2), (105, .putfield 46, 3), (108, .aload_n 0, 1), (109, .bipush 40, 2), (111, .newarray .int, 2), (113, .putfield 49, 3), (116, .aload_n 0, 1), (117, .bipush 40, 2)] 95 (by decide +kernel)
theorem dX12_init_95 : decode cX12_init 95 = .ok (.newarray .int, 2) := dgX12_init_95.1
theorem dX12_init_97 : decode cX12_init 97 = .ok (.putfield 43, 3) := dgX12_init_95.2.1
theorem dX12_init_100 : decode cX12_init 100 = .ok (.aload_n 0, 1) := dgX12_init_95.2.2.1
theorem dX12_init_101 : decode cX12_init 101 = .ok (.bipush 40, 2) := dgX12_init_95.2.2.2.1
theorem dX12_init_103 : decode cX12_init 103 = .ok (.newarray .int, 2) := dgX12_init_95.2.2.2.2.1
theorem dX12_init_105 : decode cX12_init 105 = .ok (.putfield 46, 3) := dgX12_init_95.2.2.2.2.2.1
theorem dX12_init_108 : decode cX12_init 108 = .ok (.aload_n 0, 1) := dgX12_init_95.2.2.2.2.2.2.1
theorem dX12_init_109 : decode cX12_init 109 = .ok (.bipush 40, 2) := dgX12_init_95.2.2.2.2.2.2.2.1
theorem dX12_init_111 : decode cX12_init 111 = .ok (.newarray .int, 2) := dgX12_init_95.2.2.2.2.2.2.2.2.1
theorem dX12_init_113 : decode cX12_init 113 = .ok (.putfield 49, 3) := dgX12_init_95.2.2.2.2.2.2.2.2.2.1
theorem dX12_init_116 : decode cX12_init 116 = .ok (.aload_n 0, 1) := dgX12_init_95.2.2.2.2.2.2.2.2.2.2.1
theorem dX12_init_117 : decode cX12_init 117 = .ok (.bipush 40, 2) := dgX12_init_95.2.2.2.2.2.2.2.2.2.2.2.1
theorem dgX12_init_119 : (decode cX12_init 119 = .ok (.newarray .boolean, 2)) ∧ (decode cX12_init 121 = .ok (.putfield 52, 3)) ∧ (decode cX12_init 124 = .ok (.aload_n 0, 1)) ∧ (decode cX12_init 125 = .ok (.bipush 20, 2)) ∧ (decode cX12_init 127 = .ok (.newarray .int, 2)) ∧ (decode cX12_init 129 = .ok (.putfield 56, 3)) ∧ (decode cX12_init 132 = .ok (.aload_n 0, 1)) ∧ (decode cX12_init 133 = .ok (.ldc 59, 2)) ∧ (decode cX12_init 135 = .ok (.putfield 60, 3)) ∧ (decode cX12_init 138 = .ok (.aload_n 0, 1)) ∧ True := dkW [(119, .newarray .boolean, 2), (121, .putfield 52, 3), (124, .aload_n 0, 1), (125, .bipush 20, 2), (127, .newarray .int, 2), (129, .putfield 56, 3), (132, .aload_n 0, 1), (133, .ldc 59, 2), (135, .putfield 60, 3), (138, .aload_n 0, 1)] 119 (by decide +kernel)
theorem dX12_init_119 : decode cX12_init 119 = .ok (.newarray .boolean, 2) := dgX12_init_119.1
theorem dX12_init_121 : decode cX12_init 121 = .ok (.putfield 52, 3) := dgX12_init_119.2.1
theorem dX12_init_124 : decode cX12_init 124 = .ok (.aload_n 0, 1) := dgX12_init_119.2.2.1
theorem dX12_init_125 : decode cX12_init 125 = .ok (.bipush 20, 2) := dgX12_init_119.2.2.2.1
theorem dX12_init_127 : decode cX12_init 127 = .ok (.newarray .int, 2) := dgX12_init_119.2.2.2.2.1
theorem dX12_init_129 : decode cX12_init 129 = .ok (.putfield 56, 3) := dgX12_init_119.2.2.2.2.2.1
theorem dX12_init_132 : decode cX12_init 132 = .ok (.aload_n 0, 1) := dgX12_init_119.2.2.2.2.2.2.1
theorem dX12_init_133 : decode cX12_init 133 = .ok (.ldc 59, 2) := dgX12_init_119.2.2.2.2.2.2.2.1
theorem dX12_init_135 : decode cX12_init 135 = .ok (.putfield 60, 3) := dgX12_init_119.2.2.2.2.2.2.2.2.1
theorem dX12_init_138 : decode cX12_init 138 = .ok (.aload_n 0, 1) := dgX12_init_119.2.2.2.2.2.2.2.2.2.1
theorem dX12_init_139 : decode cX12_init 139 = .ok (.iconst (-1), 1) := by decide +kernel
theorem dgX12_init_140 : (decode cX12_init 140 = .ok (.putfield 64, 3)) ∧ (decode cX12_init 143 = .ok (.aload_n 0, 1)) ∧ True := dkW [(140, .putfield 64, 3), (143, .aload_n 0, 1)] 140 (by decide +kernel)
theorem dX12_init_140 : decode cX12_init 140 = .ok (.putfield 64, 3) := dgX12_init_140.1
theorem dX12_init_143 : decode cX12_init 143 = .ok (.aload_n 0, 1) := dgX12_init_140.2.1
theorem dX12_init_144 : decode cX12_init 144 = .ok (.iconst (-1), 1) := by decide +kernel
theorem dgX12_init_145 : (decode cX12_init 145 = .ok (.putfield 67, 3)) ∧ (decode cX12_init 148 = .ok (.aload_n 0, 1)) ∧ (decode cX12_init 149 = .ok (.bipush 16, 2)) ∧ (decode cX12_init 151 = .ok (.newarray .int, 2)) ∧ (decode cX12_init 153 = .ok (.putfield 70, 3)) ∧ (decode cX12_init 156 = .ok (.aload_n 0, 1)) ∧ (decode cX12_init 157 = .ok (.bipush 80, 2)) ∧ (decode cX12_init 159 = .ok (.newarray .int, 2)) ∧ (decode cX12_init 161 = .ok (.putfield 73, 3)) ∧ (decode cX12_init 164 = .ok (.aload_n 0, 1)) ∧ (decode cX12_init 165 = .ok (.sipush 400, 3)) ∧ (decode cX12_init 168 = .ok (.newarray .int, 2)) ∧ True := dkW [(145, .putfield 67, 3), (148, .aload_n 0, 1), (149, .bipush 16, 2), (151, .newarray .int, 2), (153, .putfield 70, 3), (156, .aload_n 0, 1), (157, .bipush 80, 2), (159, .newarray .int, 2), (161, .putfield 73, 3), (164, .aload_n 0, 1), (165, .sipush 400, 3), (168, .newarray .int, 2)] 145 (by decide +kernel)
theorem dX12_init_145 : decode cX12_init 145 = .ok (.putfield 67, 3) := dgX12_init_145.1
theorem dX12_init_148 : decode cX12_init 148 = .ok (.aload_n 0, 1) := dgX12_init_145.2.1
theorem dX12_init_149 : decode cX12_init 149 = .ok (.bipush 16, 2) := dgX12_init_145.2.2.1
theorem dX12_init_151 : decode cX12_init 151 = .ok (.newarray .int, 2) := dgX12_init_145.2.2.2.1
theorem dX12_init_153 : decode cX12_init 153 = .ok (.putfield 70, 3) := dgX12_init_145.2.2.2.2.1
theorem dX12_init_156 : decode cX12_init 156 = .ok (.aload_n 0, 1) := dgX12_init_145.2.2.2.2.2.1
theorem dX12_init_157 : decode cX12_init 157 = .ok (.bipush 80, 2) := dgX12_init_145.2.2.2.2.2.2.1
theorem dX12_init_159 : decode cX12_init 159 = .ok (.newarray .int, 2) := dgX12_init_145.2.2.2.2.2.2.2.1
theorem dX12_init_161 : decode cX12_init 161 = .ok (.putfield 73, 3) := dgX12_init_145.2.2.2.2.2.2.2.2.1
theorem dX12_init_164 : decode cX12_init 164 = .ok (.aload_n 0, 1) := dgX12_init_145.2.2.2.2.2.2.2.2.2.1
theorem dX12_init_165 : decode cX12_init 165 = .ok (.sipush 400, 3) := dgX12_init_145.2.2.2.2.2.2.2.2.2.2.1
theorem dX12_init_168 : decode cX12_init 168 = .ok (.newarray .int, 2) := dgX12_init_145.2.2.2.2.2.2.2.2.2.2.2.1
theorem dgX12_init_170 : (decode cX12_init 170 = .ok (.putfield 76, 3)) ∧ (decode cX12_init 173 = .ok (.aload_n 0, 1)) ∧ (decode cX12_init 174 = .ok (.bipush 40, 2)) ∧ (decode cX12_init 176 = .ok (.newarray .int, 2)) ∧ (decode cX12_init 178 = .ok (.putfield 79, 3)) ∧ (decode cX12_init 181 = .ok (.aload_n 0, 1)) ∧ (decode cX12_init 182 = .ok (.bipush 40, 2)) ∧ (decode cX12_init 184 = .ok (.newarray .int, 2)) ∧ (decode cX12_init 186 = .ok (.putfield 82, 3)) ∧ (decode cX12_init 189 = .ok (.aload_n 0, 1)) ∧ (decode cX12_init 190 = .ok (.bipush 40, 2)) ∧ (decode cX12_init 192 = .ok (.newarray .int, 2)) ∧ True := dkW [(170, .putfield 76, 3), (173, .aload_n 0, 1), (174, .bipush 40, 2), (176, .newarray .int, 2), (178, .putfield 79, 3), (181, .aload_n 0, 1), (182, .bipush 40, 2), (184, .newarray .int, 2), (186, .putfield 82, 3), (189, .aload_n 0, 1), (190, .bipush 40, 2), (192, .newarray .int, 2)] 170 (by decide +kernel)
theorem dX12_init_170 : decode cX12_init 170 = .ok (.putfield 76, 3) := dgX12_init_170.1
theorem dX12_init_173 : decode cX12_init 173 = .ok (.aload_n 0, 1) := dgX12_init_170.2.1
theorem dX12_init_174 : decode cX12_init 174 = .ok (.bipush 40, 2) := dgX12_init_170.2.2.1
theorem dX12_init_176 : decode cX12_init 176 = .ok (.newarray .int, 2) := dgX12_init_170.2.2.2.1
theorem dX12_init_178 : decode cX12_init 178 = .ok (.putfield 79, 3) := dgX12_init_170.2.2.2.2.1
theorem dX12_init_181 : decode cX12_init 181 = .ok (.aload_n 0, 1) := dgX12_init_170.2.2.2.2.2.1
theorem dX12_init_182 : decode cX12_init 182 = .ok (.bipush 40, 2) := dgX12_init_170.2.2.2.2.2.2.1
theorem dX12_init_184 : decode cX12_init 184 = .ok (.newarray .int, 2) := dgX12_init_170.2.2.2.2.2.2.2.1
theorem dX12_init_186 : decode cX12_init 186 = .ok (.putfield 82, 3) := dgX12_init_170.2.2.2.2.2.2.2.2.1
theorem dX12_init_189 : decode cX12_init 189 = .ok (.aload_n 0, 1) := dgX12_init_170.2.2.2.2.2.2.2.2.2.1
theorem dX12_init_190 : decode cX12_init 190 = .ok (.bipush 40, 2) := dgX12_init_170.2.2.2.2.2.2.2.2.2.2.1
theorem dX12_init_192 : decode cX12_init 192 = .ok (.newarray .int, 2) := dgX12_init_170.2.2.2.2.2.2.2.2.2.2.2.1
theorem dgX12_init_194 : (decode cX12_init 194 = .ok (.putfield 85, 3)) ∧ (decode cX12_init 197 = .ok (.aload_n 0, 1)) ∧ (decode cX12_init 198 = .ok (.sipush 2197, 3)) ∧ (decode cX12_init 201 = .ok (.newarray .int, 2)) ∧ (decode cX12_init 203 = .ok (.putfield 88, 3)) ∧ (decode cX12_init 206 = .ok (.aload_n 0, 1)) ∧ (decode cX12_init 207 = .ok (.bipush 120, 2)) ∧ (decode cX12_init 209 = .ok (.newarray .byte, 2)) ∧ (decode cX12_init 211 = .ok (.putfield 91, 3)) ∧ (decode cX12_init 214 = .ok (.aload_n 0, 1)) ∧ (decode cX12_init 215 = .ok (.bipush 60, 2)) ∧ (decode cX12_init 217 = .ok (.newarray .int, 2)) ∧ True := dkW [(194, .putfield 85, 3), (197, .aload_n 0, 1), (198, .sipush 2197, 3), (201, .newarray .int, 2), (203, .putfield 88, 3), (206, .aload_n 0, 1), (207, .bipush 120, 2), (209, .newarray .byte, 2), (211, .putfield 91, 3), (214, .aload_n 0, 1), (215, .bipush 60, 2), (217, .newarray .int, 2)] 194 (by decide +kernel)
theorem dX12_init_194 : decode cX12_init 194 = .ok (.putfield 85, 3) := dgX12_init_194.1
theorem dX12_init_197 : decode cX12_init 197 = .ok (.aload_n 0, 1) := dgX12_init_194.2.1
theorem dX12_init_198 : decode cX12_init 198 = .ok (.sipush 2197, 3) := dgX12_init_194.2.2.1
theorem dX12_init_201 : decode cX12_init 201 = .ok (.newarray .int, 2) := dgX12_init_194.2.2.2.1
theorem dX12_init_203 : decode cX12_init 203 = .ok (.putfield 88, 3) := dgX12_init_194.2.2.2.2.1
theorem dX12_init_206 : decode cX12_init 206 = .ok (.aload_n 0, 1) := dgX12_init_194.2.2.2.2.2.1
theorem dX12_init_207 : decode cX12_init 207 = .ok (.bipush 120, 2) := dgX12_init_194.2.2.2.2.2.2.1
theorem dX12_init_209 : decode cX12_init 209 = .ok (.newarray .byte, 2) := dgX12_init_194.2.2.2.2.2.2.2.1
theorem dX12_init_211 : decode cX12_init 211 = .ok (.putfield 91, 3) := dgX12_init_194.2.2.2.2.2.2.2.2.1
theorem dX12_init_214 : decode cX12_init 214 = .ok (.aload_n 0, 1) := dgX12_init_194.2.2.2.2.2.2.2.2.2.1
theorem dX12_init_215 : decode cX12_init 215 = .ok (.bipush 60, 2) := dgX12_init_194.2.2.2.2.2.2.2.2.2.2.1
theorem dX12_init_217 : decode cX12_init 217 = .ok (.newarray .int, 2) := dgX12_init_194.2.2.2.2.2.2.2.2.2.2.2.1
theorem dgX12_init_219 : (decode cX12_init 219 = .ok (.putfield 95, 3)) ∧ (decode cX12_init 222 = .ok (.aload_n 0, 1)) ∧ (decode cX12_init 223 = .ok (.bipush 60, 2)) ∧ (decode cX12_init 225 = .ok (.newarray .int, 2)) ∧ (decode cX12_init 227 = .ok (.putfield 98, 3)) ∧ (decode cX12_init 230 = .ok (.aload_n 0, 1)) ∧ (decode cX12_init 231 = .ok (.bipush 60, 2)) ∧ (decode cX12_init 233 = .ok (.newarray .int, 2)) ∧ (decode cX12_init 235 = .ok (.putfield 101, 3)) ∧ (decode cX12_init 238 = .ok (.aload_n 0, 1)) ∧ (decode cX12_init 239 = .ok (.bipush 40, 2)) ∧ (decode cX12_init 241 = .ok (.newarray .int, 2)) ∧ True := dkW [(219, .putfield 95, 3), (222, .aload_n 0, 1), (223, .bipush 60, 2), (225, .newarray .int, 2), (227, .putfield 98, 3), (230, .aload_n 0, 1), (231, .bipush 60, 2), (233, .newarray .int, 2), (235, .putfield 101, 3), (238, .aload_n 0, 1), (239, .bipush 40, 2), (241, .newarray .int, 2)] 219 (by decide +kernel)
theorem dX12_init_219 : decode cX12_init 219 = .ok (.putfield 95, 3) := dgX12_init_219.1
theorem dX12_init_222 : decode cX12_init 222 = .ok (.aload_n 0, 1) := dgX12_init_219.2.1
theorem dX12_init_223 : decode cX12_init 223 = .ok (.bipush 60, 2) := dgX12_init_219.2.2.1
theorem dX12_init_225 : decode cX12_init 225 = .ok (.newarray .int, 2) := dgX12_init_219.2.2.2.1
theorem dX12_init_227 : decode cX12_init 227 = .ok (.putfield 98, 3) := dgX12_init_219.2.2.2.2.1
theorem dX12_init_230 : decode cX12_init 230 = .ok (.aload_n 0, 1) := dgX12_init_219.2.2.2.2.2.1
theorem dX12_init_231 : decode cX12_init 231 = .ok (.bipush 60, 2) := dgX12_init_219.2.2.2.2.2.2.1
theorem dX12_init_233 : decode cX12_init 233 = .ok (.newarray .int, 2) := dgX12_init_219.2.2.2.2.2.2.2.1
theorem dX12_init_235 : decode cX12_init 235 = .ok (.putfield 101, 3) := dgX12_init_219.2.2.2.2.2.2.2.2.1
theorem dX12_init_238 : decode cX12_init 238 = .ok (.aload_n 0, 1) := dgX12_init_219.2.2.2.2.2.2.2.2.2.1
theorem dX12_init_239 : decode cX12_init 239 = .ok (.bipush 40, 2) := dgX12_init_219.2.2.2.2.2.2.2.2.2.2.1
theorem dX12_init_241 : decode cX12_init 241 = .ok (.newarray .int, 2) := dgX12_init_219.2.2.2.2.2.2.2.2.2.2.2.1
theorem dgX12_init_243 : (decode cX12_init 243 = .ok (.putfield 104, 3)) ∧ (decode cX12_init 246 = .ok (.aload_n 0, 1)) ∧ (decode cX12_init 247 = .ok (.bipush 40, 2)) ∧ (decode cX12_init 249 = .ok (.newarray .int, 2)) ∧ (decode cX12_init 251 = .ok (.putfield 107, 3)) ∧ (decode cX12_init 254 = .ok (.aload_n 0, 1)) ∧ (decode cX12_init 255 = .ok (.bipush 40, 2)) ∧ (decode cX12_init 257 = .ok (.newarray .int, 2)) ∧ (decode cX12_init 259 = .ok (.putfield 110, 3)) ∧ (decode cX12_init 262 = .ok (.aload_n 0, 1)) ∧ (decode cX12_init 263 = .ok (.bipush 40, 2)) ∧ (decode cX12_init 265 = .ok (.newarray .int, 2)) ∧ True := dkW [(243, .putfield 104, 3), (246, .aload_n 0, 1), (247, .bipush 40, 2), (249, .newarray .int, 2), (251, .putfield 107, 3), (254, .aload_n 0, 1), (255, .bipush 40, 2), (257, .newarray .int, 2), (259, .putfield 110, 3), (262, .aload_n 0, 1), (263, .bipush 40, 2), (265, .newarray .int, 2)] 243 (by decide +kernel)
theorem dX12_init_243 : decode cX12_init 243 = .ok (.putfield 104, 3) := dgX12_init_243.1
theorem dX12_init_246 : decode cX12_init 246 = .ok (.aload_n 0, 1) := dgX12_init_243.2.1
theorem dX12_init_247 : decode cX12_init 247 = .ok (.bipush 40, 2) := dgX12_init_243.2.2.1
theorem dX12_init_249 : decode cX12_init 249 = .ok (.newarray .int, 2) := dgX12_init_243.2.2.2.1
theorem dX12_init_251 : decode cX12_init 251 = .ok (.putfield 107, 3) := dgX12_init_243.2.2.2.2.1
theorem dX12_init_254 : decode cX12_init 254 = .ok (.aload_n 0, 1) := dgX12_init_243.2.2.2.2.2.1
theorem dX12_init_255 : decode cX12_init 255 = .ok (.bipush 40, 2) := dgX12_init_243.2.2.2.2.2.2.1
theorem dX12_init_257 : decode cX12_init 257 = .ok (.newarray .int, 2) := dgX12_init_243.2.2.2.2.2.2.2.1
theorem dX12_init_259 : decode cX12_init 259 = .ok (.putfield 110, 3) := dgX12_init_243.2.2.2.2.2.2.2.2.1
theorem dX12_init_262 : decode cX12_init 262 = .ok (.aload_n 0, 1) := dgX12_init_243.2.2.2.2.2.2.2.2.2.1
theorem dX12_init_263 : decode cX12_init 263 = .ok (.bipush 40, 2) := dgX12_init_243.2.2.2.2.2.2.2.2.2.2.1
theorem dX12_init_265 : decode cX12_init 265 = .ok (.newarray .int, 2) := dgX12_init_243.2.2.2.2.2.2.2.2.2.2.2.1
theorem dgX12_init_267 : (decode cX12_init 267 = .ok (.putfield 113, 3)) ∧ (decode cX12_init 270 = .ok (.aload_n 0, 1)) ∧ (decode cX12_init 271 = .ok (.bipush 20, 2)) ∧ (decode cX12_init 273 = .ok (.newarray .int, 2)) ∧ (decode cX12_init 275 = .ok (.putfield 116, 3)) ∧ (decode cX12_init 278 = .ok (.aload_n 0, 1)) ∧ (decode cX12_init 279 = .ok (.bipush 60, 2)) ∧ (decode cX12_init 281 = .ok (.newarray .int, 2)) ∧ (decode cX12_init 283 = .ok (.putfield 119, 3)) ∧ (decode cX12_init 286 = .ok (.aload_n 0, 1)) ∧ (decode cX12_init 287 = .ok (.bipush 60, 2)) ∧ (decode cX12_init 289 = .ok (.newarray .int, 2)) ∧ True := dkW [(267, .putfield 113, 3), (270, .aload_n 0, 1), (271, .bipush 20, 2), (273, .newarray .int, 2), (275, .putfield 116, 3), (278, .aload_n 0, 1), (279, .bipush 60, 2), (281, .newarray .int, 2), (283, .putfield 119, 3), (286, .aload_n 0, 1), (287, .bipush 60, 2), (289, .newarray .int, 2)] 267 (by decide +kernel)
theorem dX12_init_267 : decode cX12_init 267 = .ok (.putfield 113, 3) := dgX12_init_267.1
theorem dX12_init_270 : decode cX12_init 270 = .ok (.aload_n 0, 1) := dgX12_init_267.2.1
theorem dX12_init_271 : decode cX12_init 271 = .ok (.bipush 20, 2) := dgX12_init_267.2.2.1
theorem dX12_init_273 : decode cX12_init 273 = .ok (.newarray .int, 2) := dgX12_init_267.2.2.2.1
theorem dX12_init_275 : decode cX12_init 275 = .ok (.putfield 116, 3) := dgX12_init_267.2.2.2.2.1
theorem dX12_init_278 : decode cX12_init 278 = .ok (.aload_n 0, 1) := dgX12_init_267.2.2.2.2.2.1
theorem dX12_init_279 : decode cX12_init 279 = .ok (.bipush 60, 2) := dgX12_init_267.2.2.2.2.2.2.1
theorem dX12_init_281 : decode cX12_init 281 = .ok (.newarray .int, 2) := dgX12_init_267.2.2.2.2.2.2.2.1
theorem dX12_init_283 : decode cX12_init 283 = .ok (.putfield 119, 3) := dgX12_init_267.2.2.2.2.2.2.2.2.1
theorem dX12_init_286 : decode cX12_init 286 = .ok (.aload_n 0, 1) := dgX12_init_267.2.2.2.2.2.2.2.2.2.1
theorem dX12_init_287 : decode cX12_init 287 = .ok (.bipush 60, 2) := dgX12_init_267.2.2.2.2.2.2.2.2.2.2.1
theorem dX12_init_289 : decode cX12_init 289 = .ok (.newarray .int, 2) := dgX12_init_267.2.2.2.2.2.2.2.2.2.2.2.1
theorem dgX12_init_291 : (decode cX12_init 291 = .ok (.putfield 122, 3)) ∧ (decode cX12_init 294 = .ok (.aload_n 0, 1)) ∧ (decode cX12_init 295 = .ok (.bipush 12, 2)) ∧ (decode cX12_init 297 = .ok (.newarray .int, 2)) ∧ (decode cX12_init 299 = .ok (.putfield 125, 3)) ∧ (decode cX12_init 302 = .ok (.aload_n 0, 1)) ∧ (decode cX12_init 303 = .ok (.bipush 12, 2)) ∧ (decode cX12_init 305 = .ok (.newarray .int, 2)) ∧ (decode cX12_init 307 = .ok (.putfield 128, 3)) ∧ (decode cX12_init 310 = .ok (.aload_n 0, 1)) ∧ (decode cX12_init 311 = .ok (.bipush 6, 2)) ∧ (decode cX12_init 313 = .ok (.newarray .int, 2)) ∧ True := dkW [(291, .putfield 122, 3), (294, .aload_n 0, 1), (295, .bipush 12, 2), (297, .newarray .int, 2), (299, .putfield 125, 3), (302, .aload_n 0, 1), (303, .bipush 12, 2), (305, .newarray .int, 2), (307, .putfield 128, 3), (310, .aload_n 0, 1), (311, .bipush 6, 2), (313, .newarray .int, 2)] 291 (by decide +kernel)
theorem dX12_init_291 : decode cX12_init 291 = .ok (.putfield 122, 3) := dgX12_init_291.1
theorem dX12_init_294 : decode cX12_init 294 = .ok (.aload_n 0, 1) := dgX12_init_291.2.1
theorem dX12_init_295 : decode cX12_init 295 = .ok (.bipush 12, 2) := dgX12_init_291.2.2.1
theorem dX12_init_297 : decode cX12_init 297 = .ok (.newarray .int, 2) := dgX12_init_291.2.2.2.1
theorem dX12_init_299 : decode cX12_init 299 = .ok (.putfield 125, 3) := dgX12_init_291.2.2.2.2.1
theorem dX12_init_302 : decode cX12_init 302 = .ok (.aload_n 0, 1) := dgX12_init_291.2.2.2.2.2.1
theorem dX12_init_303 : decode cX12_init 303 = .ok (.bipush 12, 2) := dgX12_init_291.2.2.2.2.2.2.1
theorem dX12_init_305 : decode cX12_init 305 = .ok (.newarray .int, 2) := dgX12_init_291.2.2.2.2.2.2.2.1
theorem dX12_init_307 : decode cX12_init 307 = .ok (.putfield 128, 3) := dgX12_init_291.2.2.2.2.2.2.2.2.1
theorem dX12_init_310 : decode cX12_init 310 = .ok (.aload_n 0, 1) := dgX12_init_291.2.2.2.2.2.2.2.2.2.1
theorem dX12_init_311 : decode cX12_init 311 = .ok (.bipush 6, 2) := dgX12_init_291.2.2.2.2.2.2.2.2.2.2.1
theorem dX12_init_313 : decode cX12_init 313 = .ok (.newarray .int, 2) := dgX12_init_291.2.2.2.2.2.2.2.2.2.2.2.1
theorem dgX12_init_315 : (decode cX12_init 315 = .ok (.putfield 131, 3)) ∧ (decode cX12_init 318 = .ok (.aload_n 0, 1)) ∧ (decode cX12_init 319 = .ok (.bipush 6, 2)) ∧ (decode cX12_init 321 = .ok (.newarray .int, 2)) ∧ (decode cX12_init 323 = .ok (.putfield 134, 3)) ∧ (decode cX12_init 326 = .ok (.aload_n 0, 1)) ∧ (decode cX12_init 327 = .ok (.bipush 6, 2)) ∧ (decode cX12_init 329 = .ok (.newarray .int, 2)) ∧ (decode cX12_init 331 = .ok (.putfield 137, 3)) ∧ (decode cX12_init 334 = .ok (.aload_n 0, 1)) ∧ (decode cX12_init 335 = .ok (.bipush 6, 2)) ∧ (decode cX12_init 337 = .ok (.newarray .int, 2)) ∧ True := dkW [(315, .putfield 131, 3), (318, .aload_n 0, 1), (319, .bipush 6, 2), (321, .newarray .int, 2), (323, .putfield 134, 3), (326, .aload_n 0, 1), (327, .bipush 6, 2), (329, .newarray .int, 2), (331, .putfield 137, 3), (334, .aload_n 0, 1), (335, .bipush 6, 2), (337, .newarray .int, 2)] 315 (by decide +kernel)
theorem dX12_init_315 : decode cX12_init 315 = .ok (.putfield 131, 3) := dgX12_init_315.1
theorem dX12_init_318 : decode cX12_init 318 = .ok (.aload_n 0, 1) := dgX12_init_315.2.1
theorem dX12_init_319 : decode cX12_init 319 = .ok (.bipush 6, 2) := dgX12_init_315.2.2.1
theorem dX12_init_321 : decode cX12_init 321 = .ok (.newarray .int, 2) := dgX12_init_315.2.2.2.1
theorem dX12_init_323 : decode cX12_init 323 = .ok (.putfield 134, 3) := dgX12_init_315.2.2.2.2.1
theorem dX12_init_326 : decode cX12_init 326 = .ok (.aload_n 0, 1) := dgX12_init_315.2.2.2.2.2.1
theorem dX12_init_327 : decode cX12_init 327 = .ok (.bipush 6, 2) := dgX12_init_315.2.2.2.2.2.2.1
theorem dX12_init_329 : decode cX12_init 329 = .ok (.newarray .int, 2) := dgX12_init_315.2.2.2.2.2.2.2.1
theorem dX12_init_331 : decode cX12_init 331 = .ok (.putfield 137, 3) := dgX12_init_315.2.2.2.2.2.2.2.2.1
theorem dX12_init_334 : decode cX12_init 334 = .ok (.aload_n 0, 1) := dgX12_init_315.2.2.2.2.2.2.2.2.2.1
theorem dX12_init_335 : decode cX12_init 335 = .ok (.bipush 6, 2) := dgX12_init_315.2.2.2.2.2.2.2.2.2.2.1
theorem dX12_init_337 : decode cX12_init 337 = .ok (.newarray .int, 2) := dgX12_init_315.2.2.2.2.2.2.2.2.2.2.2.1
theorem dgX12_init_339 : (decode cX12_init 339 = .ok (.putfield 140, 3)) ∧ (decode cX12_init 342 = .ok (.return_, 1)) ∧ True := dkW [(339, .putfield 140, 3), (342, .return_, 1)] 339 (by decide +kernel)
theorem dX12_init_339 : decode cX12_init 339 = .ok (.putfield 140, 3) := dgX12_init_339.1
theorem dX12_init_342 : decode cX12_init 342 = .ok (.return_, 1) := dgX12_init_339.2.1
abbrev rmX12_init : Room := { frames := 1, cells := 40, slots := 4061, locals := 12 }
noncomputable def fX12_init (N : Nat) (h : Hs) (t : Nat)  : Option (Hs) :=
  (some (nw h (20, 40))).bind fun h1 =>
  (qR 12 2 h1 (some t) (some (sz h))).bind fun h2 =>
  (some (nw h2 (20, 40))).bind fun h3 =>
  (qR 12 3 h3 (some t) (some (sz h2))).bind fun h4 =>
  (some (nw h4 (20, 40))).bind fun h5 =>
  (qR 12 4 h5 (some t) (some (sz h4))).bind fun h6 =>
  (some (nw h6 (20, 40))).bind fun h7 =>
  (qR 12 5 h7 (some t) (some (sz h6))).bind fun h8 =>
  (some (nw h8 (20, 40))).bind fun h9 =>
  (qR 12 6 h9 (some t) (some (sz h8))).bind fun h10 =>
  (some (nw h10 (20, 40))).bind fun h11 =>
  (qR 12 7 h11 (some t) (some (sz h10))).bind fun h12 =>
  (some (nw h12 (20, 40))).bind fun h13 =>
  (qR 12 8 h13 (some t) (some (sz h12))).bind fun h14 =>
  (some (nw h14 (20, 20))).bind fun h15 =>
  (qR 12 10 h15 (some t) (some (sz h14))).bind fun h16 =>
  (some (nw h16 (20, 40))).bind fun h17 =>
  (qR 12 12 h17 (some t) (some (sz h16))).bind fun h18 =>
  (some (nw h18 (20, 40))).bind fun h19 =>
  (qR 12 13 h19 (some t) (some (sz h18))).bind fun h20 =>
  (some (nw h20 (20, 40))).bind fun h21 =>
  (qR 12 14 h21 (some t) (some (sz h20))).bind fun h22 =>
  (some (nw h22 (20, 40))).bind fun h23 =>
  (qR 12 15 h23 (some t) (some (sz h22))).bind fun h24 =>
  (some (nw h24 (20, 40))).bind fun h25 =>
  (qR 12 16 h25 (some t) (some (sz h24))).bind fun h26 =>
  (some (nw h26 (20, 40))).bind fun h27 =>
  (qR 12 17 h27 (some t) (some (sz h26))).bind fun h28 =>
  (some (nw h28 (21, 40))).bind fun h29 =>
  (qR 12 18 h29 (some t) (some (sz h28))).bind fun h30 =>
  (some (nw h30 (20, 20))).bind fun h31 =>
  (qR 12 19 h31 (some t) (some (sz h30))).bind fun h32 =>
  (qI 12 20 h32 (some t) 99999).bind fun h33 =>
  (qI 12 24 h33 (some t) (-1)).bind fun h34 =>
  (qI 12 25 h34 (some t) (-1)).bind fun h35 =>
  (some (nw h35 (20, 16))).bind fun h36 =>
  (qR 12 26 h36 (some t) (some (sz h35))).bind fun h37 =>
  (some (nw h37 (20, 80))).bind fun h38 =>
  (qR 12 27 h38 (some t) (some (sz h37))).bind fun h39 =>
  (some (nw h39 (20, 400))).bind fun h40 =>
  (qR 12 28 h40 (some t) (some (sz h39))).bind fun h41 =>
  (some (nw h41 (20, 40))).bind fun h42 =>
  (qR 12 31 h42 (some t) (some (sz h41))).bind fun h43 =>
  (some (nw h43 (20, 40))).bind fun h44 =>
  (qR 12 32 h44 (some t) (some (sz h43))).bind fun h45 =>
  (some (nw h45 (20, 40))).bind fun h46 =>
  (qR 12 33 h46 (some t) (some (sz h45))).bind fun h47 =>
  (some (nw h47 (20, 2197))).bind fun h48 =>
  (qR 12 35 h48 (some t) (some (sz h47))).bind fun h49 =>
  (some (nw h49 (22, 120))).bind fun h50 =>
  (qR 12 36 h50 (some t) (some (sz h49))).bind fun h51 =>
  (some (nw h51 (20, 60))).bind fun h52 =>
  (qR 12 40 h52 (some t) (some (sz h51))).bind fun h53 =>
  (some (nw h53 (20, 60))).bind fun h54 =>
  (qR 12 41 h54 (some t) (some (sz h53))).bind fun h55 =>
  (some (nw h55 (20, 60))).bind fun h56 =>
  (qR 12 42 h56 (some t) (some (sz h55))).bind fun h57 =>
  (some (nw h57 (20, 40))).bind fun h58 =>
  (qR 12 44 h58 (some t) (some (sz h57))).bind fun h59 =>
  (some (nw h59 (20, 40))).bind fun h60 =>
  (qR 12 45 h60 (some t) (some (sz h59))).bind fun h61 =>
  (some (nw h61 (20, 40))).bind fun h62 =>
  (qR 12 46 h62 (some t) (some (sz h61))).bind fun h63 =>
  (some (nw h63 (20, 40))).bind fun h64 =>
  (qR 12 47 h64 (some t) (some (sz h63))).bind fun h65 =>
  (some (nw h65 (20, 20))).bind fun h66 =>
  (qR 12 48 h66 (some t) (some (sz h65))).bind fun h67 =>
  (some (nw h67 (20, 60))).bind fun h68 =>
  (qR 12 54 h68 (some t) (some (sz h67))).bind fun h69 =>
  (some (nw h69 (20, 60))).bind fun h70 =>
  (qR 12 55 h70 (some t) (some (sz h69))).bind fun h71 =>
  (some (nw h71 (20, 12))).bind fun h72 =>
  (qR 12 57 h72 (some t) (some (sz h71))).bind fun h73 =>
  (some (nw h73 (20, 12))).bind fun h74 =>
  (qR 12 58 h74 (some t) (some (sz h73))).bind fun h75 =>
  (some (nw h75 (20, 6))).bind fun h76 =>
  (qR 12 60 h76 (some t) (some (sz h75))).bind fun h77 =>
  (some (nw h77 (20, 6))).bind fun h78 =>
  (qR 12 61 h78 (some t) (some (sz h77))).bind fun h79 =>
  (some (nw h79 (20, 6))).bind fun h80 =>
  (qR 12 62 h80 (some t) (some (sz h79))).bind fun h81 =>
  (some (nw h81 (20, 6))).bind fun h82 =>
  (qR 12 64 h82 (some t) (some (sz h81))).bind fun h83 =>
  some h83
set_option maxHeartbeats 4000000 in
set_option maxRecDepth 20000 in
theorem kX12_init (l : Launch) (G : Gl) {N : Nat} {h : Hs} {t : Nat}  {r : Hs} (hf : fX12_init N h t  = some r) : CT l G yX12_init cX12_init 1 none rmX12_init [.inr (some t)] h (none) r := by
  refine mk_CT (by decide) (Nat.le_of_ble_eq_true rfl) ?_
  intro p e s m args below meth c C hret hin
  unfold fX12_init at hf
  refine r_aload_n C dX12_init_0 rfl ?_
  refine r_objInit C dX12_init_1 wd_982 wd_24 wd_25 (by decide) (Nat.le_of_ble_eq_true rfl) ?_
  refine r_aload_n C dX12_init_4 rfl ?_
  refine r_bipush (v := 40) C dX12_init_5 (by decide) ?_
  obtain ⟨h1, eh1, hf⟩ := bS hf
  cases eh1
  refine r_newA (t := 0) (N := 40) C dX12_init_7 (by decide) rfl rfl wd_62 (by decide) (by decide) (by decide) (fun _ _ q => q) (by decide) (by decide) ?_
  obtain ⟨h2, eh2, hf⟩ := bS hf
  refine r_putR C dX12_init_9 fl_X12_7 (Or.inr ⟨ff_12_2, hin⟩) rfl eh2 ?_
  refine r_aload_n C dX12_init_12 rfl ?_
  refine r_bipush (v := 40) C dX12_init_13 (by decide) ?_
  obtain ⟨h3, eh3, hf⟩ := bS hf
  cases eh3
  refine r_newA (t := 0) (N := 40) C dX12_init_15 (by decide) rfl rfl wd_62 (by decide) (by decide) (by decide) (fun _ _ q => q) (by decide) (by decide) ?_
  obtain ⟨h4, eh4, hf⟩ := bS hf
  refine r_putR C dX12_init_17 fl_X12_13 (Or.inr ⟨ff_12_3, hin⟩) rfl eh4 ?_
  refine r_aload_n C dX12_init_20 rfl ?_
  refine r_bipush (v := 40) C dX12_init_21 (by decide) ?_
  obtain ⟨h5, eh5, hf⟩ := bS hf
  cases eh5
  refine r_newA (t := 0) (N := 40) C dX12_init_23 (by decide) rfl rfl wd_62 (by decide) (by decide) (by decide) (fun _ _ q => q) (by decide) (by decide) ?_
  obtain ⟨h6, eh6, hf⟩ := bS hf
  refine r_putR C dX12_init_25 fl_X12_16 (Or.inr ⟨ff_12_4, hin⟩) rfl eh6 ?_
  refine r_aload_n C dX12_init_28 rfl ?_
  refine r_bipush (v := 40) C dX12_init_29 (by decide) ?_
  obtain ⟨h7, eh7, hf⟩ := bS hf
  cases eh7
  refine r_newA (t := 0) (N := 40) C dX12_init_31 (by decide) rfl rfl wd_62 (by decide) (by decide) (by decide) (fun _ _ q => q) (by decide) (by decide) ?_
  obtain ⟨h8, eh8, hf⟩ := bS hf
  refine r_putR C dX12_init_33 fl_X12_19 (Or.inr ⟨ff_12_5, hin⟩) rfl eh8 ?_
  refine r_aload_n C dX12_init_36 rfl ?_
  refine r_bipush (v := 40) C dX12_init_37 (by decide) ?_
  obtain ⟨h9, eh9, hf⟩ := bS hf
  cases eh9
  refine r_newA (t := 0) (N := 40) C dX12_init_39 (by decide) rfl rfl wd_62 (by decide) (by decide) (by decide) (fun _ _ q => q) (by decide) (by decide) ?_
  obtain ⟨h10, eh10, hf⟩ := bS hf
  refine r_putR C dX12_init_41 fl_X12_22 (Or.inr ⟨ff_12_6, hin⟩) rfl eh10 ?_
  refine r_aload_n C dX12_init_44 rfl ?_
  refine r_bipush (v := 40) C dX12_init_45 (by decide) ?_
  obtain ⟨h11, eh11, hf⟩ := bS hf
  cases eh11
  refine r_newA (t := 0) (N := 40) C dX12_init_47 (by decide) rfl rfl wd_62 (by decide) (by decide) (by decide) (fun _ _ q => q) (by decide) (by decide) ?_
  obtain ⟨h12, eh12, hf⟩ := bS hf
  refine r_putR C dX12_init_49 fl_X12_25 (Or.inr ⟨ff_12_7, hin⟩) rfl eh12 ?_
  refine r_aload_n C dX12_init_52 rfl ?_
  refine r_bipush (v := 40) C dX12_init_53 (by decide) ?_
  obtain ⟨h13, eh13, hf⟩ := bS hf
  cases eh13
  refine r_newA (t := 0) (N := 40) C dX12_init_55 (by decide) rfl rfl wd_62 (by decide) (by decide) (by decide) (fun _ _ q => q) (by decide) (by decide) ?_
  obtain ⟨h14, eh14, hf⟩ := bS hf
  refine r_putR C dX12_init_57 fl_X12_28 (Or.inr ⟨ff_12_8, hin⟩) rfl eh14 ?_
  refine r_aload_n C dX12_init_60 rfl ?_
  refine r_bipush (v := 20) C dX12_init_61 (by decide) ?_
  obtain ⟨h15, eh15, hf⟩ := bS hf
  cases eh15
  refine r_newA (t := 0) (N := 20) C dX12_init_63 (by decide) rfl rfl wd_62 (by decide) (by decide) (by decide) (fun _ _ q => q) (by decide) (by decide) ?_
  obtain ⟨h16, eh16, hf⟩ := bS hf
  refine r_putR C dX12_init_65 fl_X12_31 (Or.inr ⟨ff_12_10, hin⟩) rfl eh16 ?_
  refine r_aload_n C dX12_init_68 rfl ?_
  refine r_bipush (v := 40) C dX12_init_69 (by decide) ?_
  obtain ⟨h17, eh17, hf⟩ := bS hf
  cases eh17
  refine r_newA (t := 0) (N := 40) C dX12_init_71 (by decide) rfl rfl wd_62 (by decide) (by decide) (by decide) (fun _ _ q => q) (by decide) (by decide) ?_
  obtain ⟨h18, eh18, hf⟩ := bS hf
  refine r_putR C dX12_init_73 fl_X12_34 (Or.inr ⟨ff_12_12, hin⟩) rfl eh18 ?_
  refine r_aload_n C dX12_init_76 rfl ?_
  refine r_bipush (v := 40) C dX12_init_77 (by decide) ?_
  obtain ⟨h19, eh19, hf⟩ := bS hf
  cases eh19
  refine r_newA (t := 0) (N := 40) C dX12_init_79 (by decide) rfl rfl wd_62 (by decide) (by decide) (by decide) (fun _ _ q => q) (by decide) (by decide) ?_
  obtain ⟨h20, eh20, hf⟩ := bS hf
  refine r_putR C dX12_init_81 fl_X12_37 (Or.inr ⟨ff_12_13, hin⟩) rfl eh20 ?_
  refine r_aload_n C dX12_init_84 rfl ?_
  refine r_bipush (v := 40) C dX12_init_85 (by decide) ?_
  obtain ⟨h21, eh21, hf⟩ := bS hf
  cases eh21
  refine r_newA (t := 0) (N := 40) C dX12_init_87 (by decide) rfl rfl wd_62 (by decide) (by decide) (by decide) (fun _ _ q => q) (by decide) (by decide) ?_
  obtain ⟨h22, eh22, hf⟩ := bS hf
  refine r_putR C dX12_init_89 fl_X12_40 (Or.inr ⟨ff_12_14, hin⟩) rfl eh22 ?_
  refine r_aload_n C dX12_init_92 rfl ?_
  refine r_bipush (v := 40) C dX12_init_93 (by decide) ?_
  obtain ⟨h23, eh23, hf⟩ := bS hf
  cases eh23
  refine r_newA (t := 0) (N := 40) C dX12_init_95 (by decide) rfl rfl wd_62 (by decide) (by decide) (by decide) (fun _ _ q => q) (by decide) (by decide) ?_
  obtain ⟨h24, eh24, hf⟩ := bS hf
  refine r_putR C dX12_init_97 fl_X12_43 (Or.inr ⟨ff_12_15, hin⟩) rfl eh24 ?_
  refine r_aload_n C dX12_init_100 rfl ?_
  refine r_bipush (v := 40) C dX12_init_101 (by decide) ?_
  obtain ⟨h25, eh25, hf⟩ := bS hf
  cases eh25
  refine r_newA (t := 0) (N := 40) C dX12_init_103 (by decide) rfl rfl wd_62 (by decide) (by decide) (by decide) (fun _ _ q => q) (by decide) (by decide) ?_
  obtain ⟨h26, eh26, hf⟩ := bS hf
  refine r_putR C dX12_init_105 fl_X12_46 (Or.inr ⟨ff_12_16, hin⟩) rfl eh26 ?_
  refine r_aload_n C dX12_init_108 rfl ?_
  refine r_bipush (v := 40) C dX12_init_109 (by decide) ?_
  obtain ⟨h27, eh27, hf⟩ := bS hf
  cases eh27
  refine r_newA (t := 0) (N := 40) C dX12_init_111 (by decide) rfl rfl wd_62 (by decide) (by decide) (by decide) (fun _ _ q => q) (by decide) (by decide) ?_
  obtain ⟨h28, eh28, hf⟩ := bS hf
  refine r_putR C dX12_init_113 fl_X12_49 (Or.inr ⟨ff_12_17, hin⟩) rfl eh28 ?_
  refine r_aload_n C dX12_init_116 rfl ?_
  refine r_bipush (v := 40) C dX12_init_117 (by decide) ?_
  obtain ⟨h29, eh29, hf⟩ := bS hf
  cases eh29
  refine r_newA (t := 1) (N := 40) C dX12_init_119 (by decide) rfl rfl wd_1179 (by decide) (by decide) (by decide) (fun _ _ q => q) (by decide) (by decide) ?_
  obtain ⟨h30, eh30, hf⟩ := bS hf
  refine r_putR C dX12_init_121 fl_X12_52 (Or.inr ⟨ff_12_18, hin⟩) rfl eh30 ?_
  refine r_aload_n C dX12_init_124 rfl ?_
  refine r_bipush (v := 20) C dX12_init_125 (by decide) ?_
  obtain ⟨h31, eh31, hf⟩ := bS hf
  cases eh31
  refine r_newA (t := 0) (N := 20) C dX12_init_127 (by decide) rfl rfl wd_62 (by decide) (by decide) (by decide) (fun _ _ q => q) (by decide) (by decide) ?_
  obtain ⟨h32, eh32, hf⟩ := bS hf
  refine r_putR C dX12_init_129 fl_X12_56 (Or.inr ⟨ff_12_19, hin⟩) rfl eh32 ?_
  refine r_aload_n C dX12_init_132 rfl ?_
  refine r_ldc C dX12_init_133 wd_983 ?_
  obtain ⟨h33, eh33, hf⟩ := bS hf
  refine r_putI C dX12_init_135 fl_X12_60 (Or.inl fn_12_20) rfl eh33 ?_
  refine r_aload_n C dX12_init_138 rfl ?_
  refine r_iconst (v := -1) C dX12_init_139 (by decide) ?_
  obtain ⟨h34, eh34, hf⟩ := bS hf
  refine r_putI C dX12_init_140 fl_X12_64 (Or.inl fn_12_24) rfl eh34 ?_
  refine r_aload_n C dX12_init_143 rfl ?_
  refine r_iconst (v := -1) C dX12_init_144 (by decide) ?_
  obtain ⟨h35, eh35, hf⟩ := bS hf
  refine r_putI C dX12_init_145 fl_X12_67 (Or.inl fn_12_25) rfl eh35 ?_
  refine r_aload_n C dX12_init_148 rfl ?_
  refine r_bipush (v := 16) C dX12_init_149 (by decide) ?_
  obtain ⟨h36, eh36, hf⟩ := bS hf
  cases eh36
  refine r_newA (t := 0) (N := 16) C dX12_init_151 (by decide) rfl rfl wd_62 (by decide) (by decide) (by decide) (fun _ _ q => q) (by decide) (by decide) ?_
  obtain ⟨h37, eh37, hf⟩ := bS hf
  refine r_putR C dX12_init_153 fl_X12_70 (Or.inr ⟨ff_12_26, hin⟩) rfl eh37 ?_
  refine r_aload_n C dX12_init_156 rfl ?_
  refine r_bipush (v := 80) C dX12_init_157 (by decide) ?_
  obtain ⟨h38, eh38, hf⟩ := bS hf
  cases eh38
  refine r_newA (t := 0) (N := 80) C dX12_init_159 (by decide) rfl rfl wd_62 (by decide) (by decide) (by decide) (fun _ _ q => q) (by decide) (by decide) ?_
  obtain ⟨h39, eh39, hf⟩ := bS hf
  refine r_putR C dX12_init_161 fl_X12_73 (Or.inr ⟨ff_12_27, hin⟩) rfl eh39 ?_
  refine r_aload_n C dX12_init_164 rfl ?_
  refine r_sipush (v := 400) C dX12_init_165 (by decide) ?_
  obtain ⟨h40, eh40, hf⟩ := bS hf
  cases eh40
  refine r_newA (t := 0) (N := 400) C dX12_init_168 (by decide) rfl rfl wd_62 (by decide) (by decide) (by decide) (fun _ _ q => q) (by decide) (by decide) ?_
  obtain ⟨h41, eh41, hf⟩ := bS hf
  refine r_putR C dX12_init_170 fl_X12_76 (Or.inr ⟨ff_12_28, hin⟩) rfl eh41 ?_
  refine r_aload_n C dX12_init_173 rfl ?_
  refine r_bipush (v := 40) C dX12_init_174 (by decide) ?_
  obtain ⟨h42, eh42, hf⟩ := bS hf
  cases eh42
  refine r_newA (t := 0) (N := 40) C dX12_init_176 (by decide) rfl rfl wd_62 (by decide) (by decide) (by decide) (fun _ _ q => q) (by decide) (by decide) ?_
  obtain ⟨h43, eh43, hf⟩ := bS hf
  refine r_putR C dX12_init_178 fl_X12_79 (Or.inr ⟨ff_12_31, hin⟩) rfl eh43 ?_
  refine r_aload_n C dX12_init_181 rfl ?_
  refine r_bipush (v := 40) C dX12_init_182 (by decide) ?_
  obtain ⟨h44, eh44, hf⟩ := bS hf
  cases eh44
  refine r_newA (t := 0) (N := 40) C dX12_init_184 (by decide) rfl rfl wd_62 (by decide) (by decide) (by decide) (fun _ _ q => q) (by decide) (by decide) ?_
  obtain ⟨h45, eh45, hf⟩ := bS hf
  refine r_putR C dX12_init_186 fl_X12_82 (Or.inr ⟨ff_12_32, hin⟩) rfl eh45 ?_
  refine r_aload_n C dX12_init_189 rfl ?_
  refine r_bipush (v := 40) C dX12_init_190 (by decide) ?_
  obtain ⟨h46, eh46, hf⟩ := bS hf
  cases eh46
  refine r_newA (t := 0) (N := 40) C dX12_init_192 (by decide) rfl rfl wd_62 (by decide) (by decide) (by decide) (fun _ _ q => q) (by decide) (by decide) ?_
  obtain ⟨h47, eh47, hf⟩ := bS hf
  refine r_putR C dX12_init_194 fl_X12_85 (Or.inr ⟨ff_12_33, hin⟩) rfl eh47 ?_
  refine r_aload_n C dX12_init_197 rfl ?_
  refine r_sipush (v := 2197) C dX12_init_198 (by decide) ?_
  obtain ⟨h48, eh48, hf⟩ := bS hf
  cases eh48
  refine r_newA (t := 0) (N := 2197) C dX12_init_201 (by decide) rfl rfl wd_62 (by decide) (by decide) (by decide) (fun _ _ q => q) (by decide) (by decide) ?_
  obtain ⟨h49, eh49, hf⟩ := bS hf
  refine r_putR C dX12_init_203 fl_X12_88 (Or.inr ⟨ff_12_35, hin⟩) rfl eh49 ?_
  refine r_aload_n C dX12_init_206 rfl ?_
  refine r_bipush (v := 120) C dX12_init_207 (by decide) ?_
  obtain ⟨h50, eh50, hf⟩ := bS hf
  cases eh50
  refine r_newA (t := 2) (N := 120) C dX12_init_209 (by decide) rfl rfl wd_1180 (by decide) (by decide) (by decide) (fun _ _ q => q) (by decide) (by decide) ?_
  obtain ⟨h51, eh51, hf⟩ := bS hf
  refine r_putR C dX12_init_211 fl_X12_91 (Or.inr ⟨ff_12_36, hin⟩) rfl eh51 ?_
  refine r_aload_n C dX12_init_214 rfl ?_
  refine r_bipush (v := 60) C dX12_init_215 (by decide) ?_
  obtain ⟨h52, eh52, hf⟩ := bS hf
  cases eh52
  refine r_newA (t := 0) (N := 60) C dX12_init_217 (by decide) rfl rfl wd_62 (by decide) (by decide) (by decide) (fun _ _ q => q) (by decide) (by decide) ?_
  obtain ⟨h53, eh53, hf⟩ := bS hf
  refine r_putR C dX12_init_219 fl_X12_95 (Or.inr ⟨ff_12_40, hin⟩) rfl eh53 ?_
  refine r_aload_n C dX12_init_222 rfl ?_
  refine r_bipush (v := 60) C dX12_init_223 (by decide) ?_
  obtain ⟨h54, eh54, hf⟩ := bS hf
  cases eh54
  refine r_newA (t := 0) (N := 60) C dX12_init_225 (by decide) rfl rfl wd_62 (by decide) (by decide) (by decide) (fun _ _ q => q) (by decide) (by decide) ?_
  obtain ⟨h55, eh55, hf⟩ := bS hf
  refine r_putR C dX12_init_227 fl_X12_98 (Or.inr ⟨ff_12_41, hin⟩) rfl eh55 ?_
  refine r_aload_n C dX12_init_230 rfl ?_
  refine r_bipush (v := 60) C dX12_init_231 (by decide) ?_
  obtain ⟨h56, eh56, hf⟩ := bS hf
  cases eh56
  refine r_newA (t := 0) (N := 60) C dX12_init_233 (by decide) rfl rfl wd_62 (by decide) (by decide) (by decide) (fun _ _ q => q) (by decide) (by decide) ?_
  obtain ⟨h57, eh57, hf⟩ := bS hf
  refine r_putR C dX12_init_235 fl_X12_101 (Or.inr ⟨ff_12_42, hin⟩) rfl eh57 ?_
  refine r_aload_n C dX12_init_238 rfl ?_
  refine r_bipush (v := 40) C dX12_init_239 (by decide) ?_
  obtain ⟨h58, eh58, hf⟩ := bS hf
  cases eh58
  refine r_newA (t := 0) (N := 40) C dX12_init_241 (by decide) rfl rfl wd_62 (by decide) (by decide) (by decide) (fun _ _ q => q) (by decide) (by decide) ?_
  obtain ⟨h59, eh59, hf⟩ := bS hf
  refine r_putR C dX12_init_243 fl_X12_104 (Or.inr ⟨ff_12_44, hin⟩) rfl eh59 ?_
  refine r_aload_n C dX12_init_246 rfl ?_
  refine r_bipush (v := 40) C dX12_init_247 (by decide) ?_
  obtain ⟨h60, eh60, hf⟩ := bS hf
  cases eh60
  refine r_newA (t := 0) (N := 40) C dX12_init_249 (by decide) rfl rfl wd_62 (by decide) (by decide) (by decide) (fun _ _ q => q) (by decide) (by decide) ?_
  obtain ⟨h61, eh61, hf⟩ := bS hf
  refine r_putR C dX12_init_251 fl_X12_107 (Or.inr ⟨ff_12_45, hin⟩) rfl eh61 ?_
  refine r_aload_n C dX12_init_254 rfl ?_
  refine r_bipush (v := 40) C dX12_init_255 (by decide) ?_
  obtain ⟨h62, eh62, hf⟩ := bS hf
  cases eh62
  refine r_newA (t := 0) (N := 40) C dX12_init_257 (by decide) rfl rfl wd_62 (by decide) (by decide) (by decide) (fun _ _ q => q) (by decide) (by decide) ?_
  obtain ⟨h63, eh63, hf⟩ := bS hf
  refine r_putR C dX12_init_259 fl_X12_110 (Or.inr ⟨ff_12_46, hin⟩) rfl eh63 ?_
  refine r_aload_n C dX12_init_262 rfl ?_
  refine r_bipush (v := 40) C dX12_init_263 (by decide) ?_
  obtain ⟨h64, eh64, hf⟩ := bS hf
  cases eh64
  refine r_newA (t := 0) (N := 40) C dX12_init_265 (by decide) rfl rfl wd_62 (by decide) (by decide) (by decide) (fun _ _ q => q) (by decide) (by decide) ?_
  obtain ⟨h65, eh65, hf⟩ := bS hf
  refine r_putR C dX12_init_267 fl_X12_113 (Or.inr ⟨ff_12_47, hin⟩) rfl eh65 ?_
  refine r_aload_n C dX12_init_270 rfl ?_
  refine r_bipush (v := 20) C dX12_init_271 (by decide) ?_
  obtain ⟨h66, eh66, hf⟩ := bS hf
  cases eh66
  refine r_newA (t := 0) (N := 20) C dX12_init_273 (by decide) rfl rfl wd_62 (by decide) (by decide) (by decide) (fun _ _ q => q) (by decide) (by decide) ?_
  obtain ⟨h67, eh67, hf⟩ := bS hf
  refine r_putR C dX12_init_275 fl_X12_116 (Or.inr ⟨ff_12_48, hin⟩) rfl eh67 ?_
  refine r_aload_n C dX12_init_278 rfl ?_
  refine r_bipush (v := 60) C dX12_init_279 (by decide) ?_
  obtain ⟨h68, eh68, hf⟩ := bS hf
  cases eh68
  refine r_newA (t := 0) (N := 60) C dX12_init_281 (by decide) rfl rfl wd_62 (by decide) (by decide) (by decide) (fun _ _ q => q) (by decide) (by decide) ?_
  obtain ⟨h69, eh69, hf⟩ := bS hf
  refine r_putR C dX12_init_283 fl_X12_119 (Or.inr ⟨ff_12_54, hin⟩) rfl eh69 ?_
  refine r_aload_n C dX12_init_286 rfl ?_
  refine r_bipush (v := 60) C dX12_init_287 (by decide) ?_
  obtain ⟨h70, eh70, hf⟩ := bS hf
  cases eh70
  refine r_newA (t := 0) (N := 60) C dX12_init_289 (by decide) rfl rfl wd_62 (by decide) (by decide) (by decide) (fun _ _ q => q) (by decide) (by decide) ?_
  obtain ⟨h71, eh71, hf⟩ := bS hf
  refine r_putR C dX12_init_291 fl_X12_122 (Or.inr ⟨ff_12_55, hin⟩) rfl eh71 ?_
  refine r_aload_n C dX12_init_294 rfl ?_
  refine r_bipush (v := 12) C dX12_init_295 (by decide) ?_
  obtain ⟨h72, eh72, hf⟩ := bS hf
  cases eh72
  refine r_newA (t := 0) (N := 12) C dX12_init_297 (by decide) rfl rfl wd_62 (by decide) (by decide) (by decide) (fun _ _ q => q) (by decide) (by decide) ?_
  obtain ⟨h73, eh73, hf⟩ := bS hf
  refine r_putR C dX12_init_299 fl_X12_125 (Or.inr ⟨ff_12_57, hin⟩) rfl eh73 ?_
  refine r_aload_n C dX12_init_302 rfl ?_
  refine r_bipush (v := 12) C dX12_init_303 (by decide) ?_
  obtain ⟨h74, eh74, hf⟩ := bS hf
  cases eh74
  refine r_newA (t := 0) (N := 12) C dX12_init_305 (by decide) rfl rfl wd_62 (by decide) (by decide) (by decide) (fun _ _ q => q) (by decide) (by decide) ?_
  obtain ⟨h75, eh75, hf⟩ := bS hf
  refine r_putR C dX12_init_307 fl_X12_128 (Or.inr ⟨ff_12_58, hin⟩) rfl eh75 ?_
  refine r_aload_n C dX12_init_310 rfl ?_
  refine r_bipush (v := 6) C dX12_init_311 (by decide) ?_
  obtain ⟨h76, eh76, hf⟩ := bS hf
  cases eh76
  refine r_newA (t := 0) (N := 6) C dX12_init_313 (by decide) rfl rfl wd_62 (by decide) (by decide) (by decide) (fun _ _ q => q) (by decide) (by decide) ?_
  obtain ⟨h77, eh77, hf⟩ := bS hf
  refine r_putR C dX12_init_315 fl_X12_131 (Or.inr ⟨ff_12_60, hin⟩) rfl eh77 ?_
  refine r_aload_n C dX12_init_318 rfl ?_
  refine r_bipush (v := 6) C dX12_init_319 (by decide) ?_
  obtain ⟨h78, eh78, hf⟩ := bS hf
  cases eh78
  refine r_newA (t := 0) (N := 6) C dX12_init_321 (by decide) rfl rfl wd_62 (by decide) (by decide) (by decide) (fun _ _ q => q) (by decide) (by decide) ?_
  obtain ⟨h79, eh79, hf⟩ := bS hf
  refine r_putR C dX12_init_323 fl_X12_134 (Or.inr ⟨ff_12_61, hin⟩) rfl eh79 ?_
  refine r_aload_n C dX12_init_326 rfl ?_
  refine r_bipush (v := 6) C dX12_init_327 (by decide) ?_
  obtain ⟨h80, eh80, hf⟩ := bS hf
  cases eh80
  refine r_newA (t := 0) (N := 6) C dX12_init_329 (by decide) rfl rfl wd_62 (by decide) (by decide) (by decide) (fun _ _ q => q) (by decide) (by decide) ?_
  obtain ⟨h81, eh81, hf⟩ := bS hf
  refine r_putR C dX12_init_331 fl_X12_137 (Or.inr ⟨ff_12_62, hin⟩) rfl eh81 ?_
  refine r_aload_n C dX12_init_334 rfl ?_
  refine r_bipush (v := 6) C dX12_init_335 (by decide) ?_
  obtain ⟨h82, eh82, hf⟩ := bS hf
  cases eh82
  refine r_newA (t := 0) (N := 6) C dX12_init_337 (by decide) rfl rfl wd_62 (by decide) (by decide) (by decide) (fun _ _ q => q) (by decide) (by decide) ?_
  obtain ⟨h83, eh83, hf⟩ := bS hf
  refine r_putR C dX12_init_339 fl_X12_140 (Or.inr ⟨ff_12_64, hin⟩) rfl eh83 ?_
  exact r_vretF C dX12_init_342 hret hf (by decide) (by decide)

theorem dgX12_in_0 : (decode cX12_in 0 = .ok (.iload_n 0, 1)) ∧ (decode cX12_in 1 = .ok (.iload_n 1, 1)) ∧ (decode cX12_in 2 = .ok (.if_icmp .lt 12, 3)) ∧ (decode cX12_in 5 = .ok (.iload_n 0, 1)) ∧ (decode cX12_in 6 = .ok (.iload_n 2, 1)) ∧ (decode cX12_in 7 = .ok (.if_icmp .gt 7, 3)) ∧ (decode cX12_in 10 = .ok (.iconst 1, 1)) ∧ (decode cX12_in 11 = .ok (.goto 4, 3)) ∧ (decode cX12_in 14 = .ok (.iconst 0, 1)) ∧ (decode cX12_in 15 = .ok (.ireturn, 1)) ∧ True := dkW [(0, .iload_n 0, 1), (1, .iload_n 1, 1), (2, .if_icmp .lt 12, 3), (5, .iload_n 0, 1), (6, .iload_n 2, 1), (7, .if_icmp .gt 7, 3), (10, .iconst 1, 1), (11, .goto 4, 3), (14, .iconst 0, 1), (15, .ireturn, 1)] 0 (by decide +kernel)
theorem dX12_in_0 : decode cX12_in 0 = .ok (.iload_n 0, 1) := dgX12_in_0.1
theorem dX12_in_1 : decode cX12_in 1 = .ok (.iload_n 1, 1) := dgX12_in_0.2.1
theorem dX12_in_2 : decode cX12_in 2 = .ok (.if_icmp .lt 12, 3) := dgX12_in_0.2.2.1
theorem dX12_in_5 : decode cX12_in 5 = .ok (.iload_n 0, 1) := dgX12_in_0.2.2.2.1
theorem dX12_in_6 : decode cX12_in 6 = .ok (.iload_n 2, 1) := dgX12_in_0.2.2.2.2.1
theorem dX12_in_7 : decode cX12_in 7 = .ok (.if_icmp .gt 7, 3) := dgX12_in_0.2.2.2.2.2.1
theorem dX12_in_10 : decode cX12_in 10 = .ok (.iconst 1, 1) := dgX12_in_0.2.2.2.2.2.2.1
theorem dX12_in_11 : decode cX12_in 11 = .ok (.goto 4, 3) := dgX12_in_0.2.2.2.2.2.2.2.1
theorem dX12_in_14 : decode cX12_in 14 = .ok (.iconst 0, 1) := dgX12_in_0.2.2.2.2.2.2.2.2.1
theorem dX12_in_15 : decode cX12_in 15 = .ok (.ireturn, 1) := dgX12_in_0.2.2.2.2.2.2.2.2.2.1
abbrev rmX12_in : Room := { frames := 0, cells := 0, slots := 0, locals := 0 }
noncomputable def fX12_in_b15 (N : Nat)  (h : Hs) (u0 : Int32) : Option (Int32 × Hs) :=
  (zc u0).bind fun z1 =>
  some (z1, h)
set_option maxHeartbeats 4000000 in
set_option maxRecDepth 20000 in
theorem wX12_in_b15 {p : Program} {l : Launch} {e : Env} {s : State} {m : MethodId} {args : Array Value} {below : List Frame} {meth : Method} {c : Code} {G : Gl} {N : Nat} {h : Hs} {r : Int32 × Hs}  {u0 : Int32} (C : Cx p s m args meth c cX12_in RX12 3 G) (hret : meth.sig.returnType = (some .boolean))  (hf : fX12_in_b15 N  h u0 = some r) : V p l e rmX12_in s m args below meth c G 3 (MQ below (QcG G (some (.inl r.1)) r.2) args s rmX12_in.cells rmX12_in.slots (AG G)) h 0 0 15 [none, none, none] [.inl u0] := by
  unfold fX12_in_b15 at hf
  obtain ⟨z1, ez1, hf⟩ := bS hf
  exact r_zretF C dX12_in_15 hret ez1 hf (by decide) (by decide)
noncomputable def fX12_in_b14 (N : Nat)  (h : Hs)  : Option (Int32 × Hs) :=
  fX12_in_b15 N h 0
set_option maxHeartbeats 4000000 in
set_option maxRecDepth 20000 in
theorem wX12_in_b14 {p : Program} {l : Launch} {e : Env} {s : State} {m : MethodId} {args : Array Value} {below : List Frame} {meth : Method} {c : Code} {G : Gl} {N : Nat} {h : Hs} {r : Int32 × Hs}   (C : Cx p s m args meth c cX12_in RX12 3 G) (hret : meth.sig.returnType = (some .boolean))  (hf : fX12_in_b14 N  h  = some r) : V p l e rmX12_in s m args below meth c G 3 (MQ below (QcG G (some (.inl r.1)) r.2) args s rmX12_in.cells rmX12_in.slots (AG G)) h 0 0 14 [none, none, none] [] := by
  unfold fX12_in_b14 at hf
  refine r_iconst (v := 0) C dX12_in_14 (by decide) ?_
  exact V.sub (wX12_in_b15 C hret hf) (LW_n (LW_n (LW_n (LW_e))))
noncomputable def fX12_in (N : Nat) (h : Hs) (p0 : Int32) (p1 : Int32) (p2 : Int32) : Option (Int32 × Hs) :=
  if p0 < p1 then (
  fX12_in_b14 N h)
  else if p2 < p0 then (
  fX12_in_b14 N h)
  else fX12_in_b15 N h 1
set_option maxHeartbeats 4000000 in
set_option maxRecDepth 20000 in
theorem kX12_in (l : Launch) (G : Gl) {N : Nat} {h : Hs} {p0 : Int32} {p1 : Int32} {p2 : Int32} {r : Int32 × Hs} (hf : fX12_in N h p0 p1 p2 = some r) : CT l G yX12_in cX12_in 3 (some .boolean) rmX12_in [.inl p0, .inl p1, .inl p2] h (some (.inl r.1)) r.2 := by
  refine mk_CT (by decide) (Nat.le_of_ble_eq_true rfl) ?_
  intro p e s m args below meth c C hret hin
  unfold fX12_in at hf
  refine r_iload_n C dX12_in_0 rfl ?_
  refine r_iload_n C dX12_in_1 rfl ?_
  refine r_icmp_lt (tgt := 14) C dX12_in_2 (by decide) (fun hc => ?_) (fun hc => ?_)
  · have hf := ifT hf hc
    exact V.sub (wX12_in_b14 C hret hf) (LW_n (LW_n (LW_n (LW_e))))
  · have hf := ifF hf hc
    refine r_iload_n C dX12_in_5 rfl ?_
    refine r_iload_n C dX12_in_6 rfl ?_
    refine r_icmp_gt (tgt := 14) C dX12_in_7 (by decide) (fun hc => ?_) (fun hc => ?_)
    · have hf := ifT hf hc
      exact V.sub (wX12_in_b14 C hret hf) (LW_n (LW_n (LW_n (LW_e))))
    · have hf := ifF hf hc
      refine r_iconst (v := 1) C dX12_in_10 (by decide) ?_
      refine r_goto (tgt := 15) C dX12_in_11 (by decide) ?_
      exact V.sub (wX12_in_b15 C hret hf) (LW_n (LW_n (LW_n (LW_e))))

theorem dgX12_isThing_0 : (decode cX12_isThing 0 = .ok (.iload_n 1, 1)) ∧ (decode cX12_isThing 1 = .ok (.iconst 0, 1)) ∧ (decode cX12_isThing 2 = .ok (.aload_n 0, 1)) ∧ (decode cX12_isThing 3 = .ok (.getfield 146, 3)) ∧ (decode cX12_isThing 6 = .ok (.iconst 1, 1)) ∧ (decode cX12_isThing 7 = .ok (.isub, 1)) ∧ (decode cX12_isThing 8 = .ok (.invokestatic 149, 3)) ∧ (decode cX12_isThing 11 = .ok (.ireturn, 1)) ∧ True := dkW [(0, .iload_n 1, 1), (1, .iconst 0, 1), (2, .aload_n 0, 1), (3, .getfield 146, 3), (6, .iconst 1, 1), (7, .isub, 1), (8, .invokestatic 149, 3), (11, .ireturn, 1)] 0 (by decide +kernel)
theorem dX12_isThing_0 : decode cX12_isThing 0 = .ok (.iload_n 1, 1) := dgX12_isThing_0.1
theorem dX12_isThing_1 : decode cX12_isThing 1 = .ok (.iconst 0, 1) := dgX12_isThing_0.2.1
theorem dX12_isThing_2 : decode cX12_isThing 2 = .ok (.aload_n 0, 1) := dgX12_isThing_0.2.2.1
theorem dX12_isThing_3 : decode cX12_isThing 3 = .ok (.getfield 146, 3) := dgX12_isThing_0.2.2.2.1
theorem dX12_isThing_6 : decode cX12_isThing 6 = .ok (.iconst 1, 1) := dgX12_isThing_0.2.2.2.2.1
theorem dX12_isThing_7 : decode cX12_isThing 7 = .ok (.isub, 1) := dgX12_isThing_0.2.2.2.2.2.1
theorem dX12_isThing_8 : decode cX12_isThing 8 = .ok (.invokestatic 149, 3) := dgX12_isThing_0.2.2.2.2.2.2.1
theorem dX12_isThing_11 : decode cX12_isThing 11 = .ok (.ireturn, 1) := dgX12_isThing_0.2.2.2.2.2.2.2.1
abbrev rmX12_isThing : Room := { frames := 1, cells := 0, slots := 0, locals := 22 }
noncomputable def fX12_isThing (N : Nat) (h : Hs) (t : Nat) (p1 : Int32) : Option (Int32 × Hs) :=
  (oI 12 1 h (some t)).bind fun v1 =>
  (fX12_in N h p1 0 (v1 - 1)).bind fun r2 =>
  (zc r2.1).bind fun z3 =>
  some (z3, r2.2)
set_option maxHeartbeats 4000000 in
set_option maxRecDepth 20000 in
theorem kX12_isThing (l : Launch) (G : Gl) {N : Nat} {h : Hs} {t : Nat} {p1 : Int32} {r : Int32 × Hs} (hf : fX12_isThing N h t p1 = some r) : CT l G yX12_isThing cX12_isThing 2 (some .boolean) rmX12_isThing [.inr (some t), .inl p1] h (some (.inl r.1)) r.2 := by
  refine mk_CT (by decide) (Nat.le_of_ble_eq_true rfl) ?_
  intro p e s m args below meth c C hret hin
  unfold fX12_isThing at hf
  refine r_iload_n C dX12_isThing_0 rfl ?_
  refine r_iconst (v := 0) C dX12_isThing_1 (by decide) ?_
  refine r_aload_n C dX12_isThing_2 rfl ?_
  obtain ⟨v1, ev1, hf⟩ := bS hf
  refine r_getI C dX12_isThing_3 fl_X12_146 rfl ev1 ?_
  refine r_iconst (v := 1) C dX12_isThing_6 (by decide) ?_
  refine r_isub C dX12_isThing_7 ?_
  obtain ⟨r2, er2, hf⟩ := bS hf
  refine r_invS1 (As := [.inl p1, .inl 0, .inl (v1 - 1)]) C dX12_isThing_8 mcX12_in wd_1185 wd_1186 ⟨by decide, by decide⟩ ⟨by decide, by decide⟩ rfl (Nat.le_of_ble_eq_true rfl) (kX12_in l G er2) ?_
  obtain ⟨z3, ez3, hf⟩ := bS hf
  exact r_zretF C dX12_isThing_11 hret ez3 hf (by decide) (by decide)

theorem dgX12_isRope_0 : (decode cX12_isRope 0 = .ok (.iload_n 1, 1)) ∧ (decode cX12_isRope 1 = .ok (.iconst 0, 1)) ∧ (decode cX12_isRope 2 = .ok (.aload_n 0, 1)) ∧ (decode cX12_isRope 3 = .ok (.getfield 153, 3)) ∧ (decode cX12_isRope 6 = .ok (.iconst 1, 1)) ∧ (decode cX12_isRope 7 = .ok (.isub, 1)) ∧ (decode cX12_isRope 8 = .ok (.invokestatic 149, 3)) ∧ (decode cX12_isRope 11 = .ok (.ireturn, 1)) ∧ True := dkW [(0, .iload_n 1, 1), (1, .iconst 0, 1), (2, .aload_n 0, 1), (3, .getfield 153, 3), (6, .iconst 1, 1), (7, .isub, 1), (8, .invokestatic 149, 3), (11, .ireturn, 1)] 0 (by decide +kernel)
theorem dX12_isRope_0 : decode cX12_isRope 0 = .ok (.iload_n 1, 1) := dgX12_isRope_0.1
theorem dX12_isRope_1 : decode cX12_isRope 1 = .ok (.iconst 0, 1) := dgX12_isRope_0.2.1
theorem dX12_isRope_2 : decode cX12_isRope 2 = .ok (.aload_n 0, 1) := dgX12_isRope_0.2.2.1
theorem dX12_isRope_3 : decode cX12_isRope 3 = .ok (.getfield 153, 3) := dgX12_isRope_0.2.2.2.1
theorem dX12_isRope_6 : decode cX12_isRope 6 = .ok (.iconst 1, 1) := dgX12_isRope_0.2.2.2.2.1
theorem dX12_isRope_7 : decode cX12_isRope 7 = .ok (.isub, 1) := dgX12_isRope_0.2.2.2.2.2.1
theorem dX12_isRope_8 : decode cX12_isRope 8 = .ok (.invokestatic 149, 3) := dgX12_isRope_0.2.2.2.2.2.2.1
theorem dX12_isRope_11 : decode cX12_isRope 11 = .ok (.ireturn, 1) := dgX12_isRope_0.2.2.2.2.2.2.2.1
abbrev rmX12_isRope : Room := { frames := 1, cells := 0, slots := 0, locals := 22 }
noncomputable def fX12_isRope (N : Nat) (h : Hs) (t : Nat) (p1 : Int32) : Option (Int32 × Hs) :=
  (oI 12 11 h (some t)).bind fun v1 =>
  (fX12_in N h p1 0 (v1 - 1)).bind fun r2 =>
  (zc r2.1).bind fun z3 =>
  some (z3, r2.2)
set_option maxHeartbeats 4000000 in
set_option maxRecDepth 20000 in
theorem kX12_isRope (l : Launch) (G : Gl) {N : Nat} {h : Hs} {t : Nat} {p1 : Int32} {r : Int32 × Hs} (hf : fX12_isRope N h t p1 = some r) : CT l G yX12_isRope cX12_isRope 2 (some .boolean) rmX12_isRope [.inr (some t), .inl p1] h (some (.inl r.1)) r.2 := by
  refine mk_CT (by decide) (Nat.le_of_ble_eq_true rfl) ?_
  intro p e s m args below meth c C hret hin
  unfold fX12_isRope at hf
  refine r_iload_n C dX12_isRope_0 rfl ?_
  refine r_iconst (v := 0) C dX12_isRope_1 (by decide) ?_
  refine r_aload_n C dX12_isRope_2 rfl ?_
  obtain ⟨v1, ev1, hf⟩ := bS hf
  refine r_getI C dX12_isRope_3 fl_X12_153 rfl ev1 ?_
  refine r_iconst (v := 1) C dX12_isRope_6 (by decide) ?_
  refine r_isub C dX12_isRope_7 ?_
  obtain ⟨r2, er2, hf⟩ := bS hf
  refine r_invS1 (As := [.inl p1, .inl 0, .inl (v1 - 1)]) C dX12_isRope_8 mcX12_in wd_1185 wd_1186 ⟨by decide, by decide⟩ ⟨by decide, by decide⟩ rfl (Nat.le_of_ble_eq_true rfl) (kX12_in l G er2) ?_
  obtain ⟨z3, ez3, hf⟩ := bS hf
  exact r_zretF C dX12_isRope_11 hret ez3 hf (by decide) (by decide)

theorem dgX12_isDrum_0 : (decode cX12_isDrum 0 = .ok (.iload_n 1, 1)) ∧ (decode cX12_isDrum 1 = .ok (.iconst 0, 1)) ∧ (decode cX12_isDrum 2 = .ok (.aload_n 0, 1)) ∧ (decode cX12_isDrum 3 = .ok (.getfield 156, 3)) ∧ (decode cX12_isDrum 6 = .ok (.iconst 1, 1)) ∧ (decode cX12_isDrum 7 = .ok (.isub, 1)) ∧ (decode cX12_isDrum 8 = .ok (.invokestatic 149, 3)) ∧ (decode cX12_isDrum 11 = .ok (.ireturn, 1)) ∧ True := dkW [(0, .iload_n 1, 1), (1, .iconst 0, 1), (2, .aload_n 0, 1), (3, .getfield 156, 3), (6, .iconst 1, 1), (7, .isub, 1), (8, .invokestatic 149, 3), (11, .ireturn, 1)] 0 (by decide +kernel)
theorem dX12_isDrum_0 : decode cX12_isDrum 0 = .ok (.iload_n 1, 1) := dgX12_isDrum_0.1
theorem dX12_isDrum_1 : decode cX12_isDrum 1 = .ok (.iconst 0, 1) := dgX12_isDrum_0.2.1
theorem dX12_isDrum_2 : decode cX12_isDrum 2 = .ok (.aload_n 0, 1) := dgX12_isDrum_0.2.2.1
theorem dX12_isDrum_3 : decode cX12_isDrum 3 = .ok (.getfield 156, 3) := dgX12_isDrum_0.2.2.2.1
theorem dX12_isDrum_6 : decode cX12_isDrum 6 = .ok (.iconst 1, 1) := dgX12_isDrum_0.2.2.2.2.1
theorem dX12_isDrum_7 : decode cX12_isDrum 7 = .ok (.isub, 1) := dgX12_isDrum_0.2.2.2.2.2.1
theorem dX12_isDrum_8 : decode cX12_isDrum 8 = .ok (.invokestatic 149, 3) := dgX12_isDrum_0.2.2.2.2.2.2.1
theorem dX12_isDrum_11 : decode cX12_isDrum 11 = .ok (.ireturn, 1) := dgX12_isDrum_0.2.2.2.2.2.2.2.1
abbrev rmX12_isDrum : Room := { frames := 1, cells := 0, slots := 0, locals := 22 }
noncomputable def fX12_isDrum (N : Nat) (h : Hs) (t : Nat) (p1 : Int32) : Option (Int32 × Hs) :=
  (oI 12 9 h (some t)).bind fun v1 =>
  (fX12_in N h p1 0 (v1 - 1)).bind fun r2 =>
  (zc r2.1).bind fun z3 =>
  some (z3, r2.2)
set_option maxHeartbeats 4000000 in
set_option maxRecDepth 20000 in
theorem kX12_isDrum (l : Launch) (G : Gl) {N : Nat} {h : Hs} {t : Nat} {p1 : Int32} {r : Int32 × Hs} (hf : fX12_isDrum N h t p1 = some r) : CT l G yX12_isDrum cX12_isDrum 2 (some .boolean) rmX12_isDrum [.inr (some t), .inl p1] h (some (.inl r.1)) r.2 := by
  refine mk_CT (by decide) (Nat.le_of_ble_eq_true rfl) ?_
  intro p e s m args below meth c C hret hin
  unfold fX12_isDrum at hf
  refine r_iload_n C dX12_isDrum_0 rfl ?_
  refine r_iconst (v := 0) C dX12_isDrum_1 (by decide) ?_
  refine r_aload_n C dX12_isDrum_2 rfl ?_
  obtain ⟨v1, ev1, hf⟩ := bS hf
  refine r_getI C dX12_isDrum_3 fl_X12_156 rfl ev1 ?_
  refine r_iconst (v := 1) C dX12_isDrum_6 (by decide) ?_
  refine r_isub C dX12_isDrum_7 ?_
  obtain ⟨r2, er2, hf⟩ := bS hf
  refine r_invS1 (As := [.inl p1, .inl 0, .inl (v1 - 1)]) C dX12_isDrum_8 mcX12_in wd_1185 wd_1186 ⟨by decide, by decide⟩ ⟨by decide, by decide⟩ rfl (Nat.le_of_ble_eq_true rfl) (kX12_in l G er2) ?_
  obtain ⟨z3, ez3, hf⟩ := bS hf
  exact r_zretF C dX12_isDrum_11 hret ez3 hf (by decide) (by decide)

theorem dgX12_meets_0 : (decode cX12_meets 0 = .ok (.iload_n 1, 1)) ∧ (decode cX12_meets 1 = .ok (.iload_n 3, 1)) ∧ (decode cX12_meets 2 = .ok (.if_icmp .eq 56, 3)) ∧ (decode cX12_meets 5 = .ok (.aload_n 0, 1)) ∧ (decode cX12_meets 6 = .ok (.getfield 7, 3)) ∧ (decode cX12_meets 9 = .ok (.iload_n 1, 1)) ∧ (decode cX12_meets 10 = .ok (.iaload, 1)) ∧ (decode cX12_meets 11 = .ok (.aload_n 0, 1)) ∧ (decode cX12_meets 12 = .ok (.getfield 7, 3)) ∧ (decode cX12_meets 15 = .ok (.iload_n 3, 1)) ∧ (decode cX12_meets 16 = .ok (.iaload, 1)) ∧ (decode cX12_meets 17 = .ok (.if_icmp .ne 41, 3)) ∧ True := dkW [(0, .iload_n 1, 1), (1, .iload_n 3, 1), (2, .if_icmp .eq 56, 3), (5, .aload_n 0, 1), (6, .getfield 7, 3), (9, .iload_n 1, 1), (10, .iaload, 1), (11, .aload_n 0, 1), (12, .getfield 7, 3), (15, .iload_n 3, 1), (16, .iaload, 1), (17, .if_icmp .ne 41, 3)] 0 (by decide +kernel)
theorem dX12_meets_0 : decode cX12_meets 0 = .ok (.iload_n 1, 1) := dgX12_meets_0.1
theorem dX12_meets_1 : decode cX12_meets 1 = .ok (.iload_n 3, 1) := dgX12_meets_0.2.1
theorem dX12_meets_2 : decode cX12_meets 2 = .ok (.if_icmp .eq 56, 3) := dgX12_meets_0.2.2.1
theorem dX12_meets_5 : decode cX12_meets 5 = .ok (.aload_n 0, 1) := dgX12_meets_0.2.2.2.1
theorem dX12_meets_6 : decode cX12_meets 6 = .ok (.getfield 7, 3) := dgX12_meets_0.2.2.2.2.1
theorem dX12_meets_9 : decode cX12_meets 9 = .ok (.iload_n 1, 1) := dgX12_meets_0.2.2.2.2.2.1
theorem dX12_meets_10 : decode cX12_meets 10 = .ok (.iaload, 1) := dgX12_meets_0.2.2.2.2.2.2.1
theorem dX12_meets_11 : decode cX12_meets 11 = .ok (.aload_n 0, 1) := dgX12_meets_0.2.2.2.2.2.2.2.1
theorem dX12_meets_12 : decode cX12_meets 12 = .ok (.getfield 7, 3) := dgX12_meets_0.2.2.2.2.2.2.2.2.1
theorem dX12_meets_15 : decode cX12_meets 15 = .ok (.iload_n 3, 1) := dgX12_meets_0.2.2.2.2.2.2.2.2.2.1
theorem dX12_meets_16 : decode cX12_meets 16 = .ok (.iaload, 1) := dgX12_meets_0.2.2.2.2.2.2.2.2.2.2.1
theorem dX12_meets_17 : decode cX12_meets 17 = .ok (.if_icmp .ne 41, 3) := dgX12_meets_0.2.2.2.2.2.2.2.2.2.2.2.1
theorem dgX12_meets_20 : (decode cX12_meets 20 = .ok (.iload_n 2, 1)) ∧ (decode cX12_meets 21 = .ok (.aload_n 0, 1)) ∧ (decode cX12_meets 22 = .ok (.getfield 19, 3)) ∧ (decode cX12_meets 25 = .ok (.iload_n 3, 1)) ∧ (decode cX12_meets 26 = .ok (.iaload, 1)) ∧ (decode cX12_meets 27 = .ok (.aload_n 0, 1)) ∧ (decode cX12_meets 28 = .ok (.getfield 13, 3)) ∧ (decode cX12_meets 31 = .ok (.iload_n 3, 1)) ∧ (decode cX12_meets 32 = .ok (.iaload, 1)) ∧ (decode cX12_meets 33 = .ok (.iadd, 1)) ∧ (decode cX12_meets 34 = .ok (.if_icmp .ge 24, 3)) ∧ (decode cX12_meets 37 = .ok (.aload_n 0, 1)) ∧ True := dkW [(20, .iload_n 2, 1), (21, .aload_n 0, 1), (22, .getfield 19, 3), (25, .iload_n 3, 1), (26, .iaload, 1), (27, .aload_n 0, 1), (28, .getfield 13, 3), (31, .iload_n 3, 1), (32, .iaload, 1), (33, .iadd, 1), (34, .if_icmp .ge 24, 3), (37, .aload_n 0, 1)] 20 (by decide +kernel)
theorem dX12_meets_20 : decode cX12_meets 20 = .ok (.iload_n 2, 1) := dgX12_meets_20.1
theorem dX12_meets_21 : decode cX12_meets 21 = .ok (.aload_n 0, 1) := dgX12_meets_20.2.1
theorem dX12_meets_22 : decode cX12_meets 22 = .ok (.getfield 19, 3) := dgX12_meets_20.2.2.1
theorem dX12_meets_25 : decode cX12_meets 25 = .ok (.iload_n 3, 1) := dgX12_meets_20.2.2.2.1
theorem dX12_meets_26 : decode cX12_meets 26 = .ok (.iaload, 1) := dgX12_meets_20.2.2.2.2.1
theorem dX12_meets_27 : decode cX12_meets 27 = .ok (.aload_n 0, 1) := dgX12_meets_20.2.2.2.2.2.1
theorem dX12_meets_28 : decode cX12_meets 28 = .ok (.getfield 13, 3) := dgX12_meets_20.2.2.2.2.2.2.1
theorem dX12_meets_31 : decode cX12_meets 31 = .ok (.iload_n 3, 1) := dgX12_meets_20.2.2.2.2.2.2.2.1
theorem dX12_meets_32 : decode cX12_meets 32 = .ok (.iaload, 1) := dgX12_meets_20.2.2.2.2.2.2.2.2.1
theorem dX12_meets_33 : decode cX12_meets 33 = .ok (.iadd, 1) := dgX12_meets_20.2.2.2.2.2.2.2.2.2.1
theorem dX12_meets_34 : decode cX12_meets 34 = .ok (.if_icmp .ge 24, 3) := dgX12_meets_20.2.2.2.2.2.2.2.2.2.2.1
theorem dX12_meets_37 : decode cX12_meets 37 = .ok (.aload_n 0, 1) := dgX12_meets_20.2.2.2.2.2.2.2.2.2.2.2.1
theorem dgX12_meets_38 : (decode cX12_meets 38 = .ok (.getfield 19, 3)) ∧ (decode cX12_meets 41 = .ok (.iload_n 3, 1)) ∧ (decode cX12_meets 42 = .ok (.iaload, 1)) ∧ (decode cX12_meets 43 = .ok (.iload_n 2, 1)) ∧ (decode cX12_meets 44 = .ok (.aload_n 0, 1)) ∧ (decode cX12_meets 45 = .ok (.getfield 13, 3)) ∧ (decode cX12_meets 48 = .ok (.iload_n 1, 1)) ∧ (decode cX12_meets 49 = .ok (.iaload, 1)) ∧ (decode cX12_meets 50 = .ok (.iadd, 1)) ∧ (decode cX12_meets 51 = .ok (.if_icmp .ge 7, 3)) ∧ (decode cX12_meets 54 = .ok (.iconst 1, 1)) ∧ (decode cX12_meets 55 = .ok (.goto 4, 3)) ∧ True := dkW [(38, .getfield 19, 3), (41, .iload_n 3, 1), (42, .iaload, 1), (43, .iload_n 2, 1), (44, .aload_n 0, 1), (45, .getfield 13, 3), (48, .iload_n 1, 1), (49, .iaload, 1), (50, .iadd, 1), (51, .if_icmp .ge 7, 3), (54, .iconst 1, 1), (55, .goto 4, 3)] 38 (by decide +kernel)
theorem dX12_meets_38 : decode cX12_meets 38 = .ok (.getfield 19, 3) := dgX12_meets_38.1
theorem dX12_meets_41 : decode cX12_meets 41 = .ok (.iload_n 3, 1) := dgX12_meets_38.2.1
theorem dX12_meets_42 : decode cX12_meets 42 = .ok (.iaload, 1) := dgX12_meets_38.2.2.1
theorem dX12_meets_43 : decode cX12_meets 43 = .ok (.iload_n 2, 1) := dgX12_meets_38.2.2.2.1
theorem dX12_meets_44 : decode cX12_meets 44 = .ok (.aload_n 0, 1) := dgX12_meets_38.2.2.2.2.1
theorem dX12_meets_45 : decode cX12_meets 45 = .ok (.getfield 13, 3) := dgX12_meets_38.2.2.2.2.2.1
theorem dX12_meets_48 : decode cX12_meets 48 = .ok (.iload_n 1, 1) := dgX12_meets_38.2.2.2.2.2.2.1
theorem dX12_meets_49 : decode cX12_meets 49 = .ok (.iaload, 1) := dgX12_meets_38.2.2.2.2.2.2.2.1
theorem dX12_meets_50 : decode cX12_meets 50 = .ok (.iadd, 1) := dgX12_meets_38.2.2.2.2.2.2.2.2.1
theorem dX12_meets_51 : decode cX12_meets 51 = .ok (.if_icmp .ge 7, 3) := dgX12_meets_38.2.2.2.2.2.2.2.2.2.1
theorem dX12_meets_54 : decode cX12_meets 54 = .ok (.iconst 1, 1) := dgX12_meets_38.2.2.2.2.2.2.2.2.2.2.1
theorem dX12_meets_55 : decode cX12_meets 55 = .ok (.goto 4, 3) := dgX12_meets_38.2.2.2.2.2.2.2.2.2.2.2.1
theorem dgX12_meets_58 : (decode cX12_meets 58 = .ok (.iconst 0, 1)) ∧ (decode cX12_meets 59 = .ok (.ireturn, 1)) ∧ True := dkW [(58, .iconst 0, 1), (59, .ireturn, 1)] 58 (by decide +kernel)
theorem dX12_meets_58 : decode cX12_meets 58 = .ok (.iconst 0, 1) := dgX12_meets_58.1
theorem dX12_meets_59 : decode cX12_meets 59 = .ok (.ireturn, 1) := dgX12_meets_58.2.1
abbrev rmX12_meets : Room := { frames := 0, cells := 0, slots := 0, locals := 0 }
noncomputable def fX12_meets_b59 (N : Nat)  (t : Nat) (h : Hs) (u0 : Int32) : Option (Int32 × Hs) :=
  (zc u0).bind fun z1 =>
  some (z1, h)
set_option maxHeartbeats 4000000 in
set_option maxRecDepth 20000 in
theorem wX12_meets_b59 {p : Program} {l : Launch} {e : Env} {s : State} {m : MethodId} {args : Array Value} {below : List Frame} {meth : Method} {c : Code} {G : Gl} {N : Nat} {h : Hs} {r : Int32 × Hs}  {t : Nat} {u0 : Int32} (C : Cx p s m args meth c cX12_meets RX12 4 G) (hret : meth.sig.returnType = (some .boolean))  (hf : fX12_meets_b59 N  t h u0 = some r) : V p l e rmX12_meets s m args below meth c G 4 (MQ below (QcG G (some (.inl r.1)) r.2) args s rmX12_meets.cells rmX12_meets.slots (AG G)) h 0 0 59 [some (.inr (some t)), none, none, none] [.inl u0] := by
  unfold fX12_meets_b59 at hf
  obtain ⟨z1, ez1, hf⟩ := bS hf
  exact r_zretF C dX12_meets_59 hret ez1 hf (by decide) (by decide)
noncomputable def fX12_meets_b58 (N : Nat)  (t : Nat) (h : Hs)  : Option (Int32 × Hs) :=
  fX12_meets_b59 N t h 0
set_option maxHeartbeats 4000000 in
set_option maxRecDepth 20000 in
theorem wX12_meets_b58 {p : Program} {l : Launch} {e : Env} {s : State} {m : MethodId} {args : Array Value} {below : List Frame} {meth : Method} {c : Code} {G : Gl} {N : Nat} {h : Hs} {r : Int32 × Hs}  {t : Nat}  (C : Cx p s m args meth c cX12_meets RX12 4 G) (hret : meth.sig.returnType = (some .boolean))  (hf : fX12_meets_b58 N  t h  = some r) : V p l e rmX12_meets s m args below meth c G 4 (MQ below (QcG G (some (.inl r.1)) r.2) args s rmX12_meets.cells rmX12_meets.slots (AG G)) h 0 0 58 [some (.inr (some t)), none, none, none] [] := by
  unfold fX12_meets_b58 at hf
  refine r_iconst (v := 0) C dX12_meets_58 (by decide) ?_
  exact V.sub (wX12_meets_b59 C hret hf) (LW_s rfl (LW_n (LW_n (LW_n (LW_e)))))
noncomputable def fX12_meets (N : Nat) (h : Hs) (t : Nat) (p1 : Int32) (p2 : Int32) (p3 : Int32) : Option (Int32 × Hs) :=
  if p1 = p3 then (
  fX12_meets_b58 N t h)
  else (oR 12 2 h (some t)).bind fun o1 =>
  (lA 20 h o1 p1).bind fun v2 =>
  (oR 12 2 h (some t)).bind fun o3 =>
  (lA 20 h o3 p3).bind fun v4 =>
  if v2 = v4 then (
  (oR 12 5 h (some t)).bind fun o5 =>
  (lA 20 h o5 p3).bind fun v6 =>
  (oR 12 3 h (some t)).bind fun o7 =>
  (lA 20 h o7 p3).bind fun v8 =>
  if (v6 + v8) ≤ p2 then (
  fX12_meets_b58 N t h)
  else (oR 12 5 h (some t)).bind fun o9 =>
  (lA 20 h o9 p3).bind fun v10 =>
  (oR 12 3 h (some t)).bind fun o11 =>
  (lA 20 h o11 p1).bind fun v12 =>
  if (p2 + v12) ≤ v10 then (
  fX12_meets_b58 N t h)
  else fX12_meets_b59 N t h 1)
  else fX12_meets_b58 N t h
set_option maxHeartbeats 4000000 in
set_option maxRecDepth 20000 in
theorem kX12_meets (l : Launch) (G : Gl) {N : Nat} {h : Hs} {t : Nat} {p1 : Int32} {p2 : Int32} {p3 : Int32} {r : Int32 × Hs} (hf : fX12_meets N h t p1 p2 p3 = some r) : CT l G yX12_meets cX12_meets 4 (some .boolean) rmX12_meets [.inr (some t), .inl p1, .inl p2, .inl p3] h (some (.inl r.1)) r.2 := by
  refine mk_CT (by decide) (Nat.le_of_ble_eq_true rfl) ?_
  intro p e s m args below meth c C hret hin
  unfold fX12_meets at hf
  refine r_iload_n C dX12_meets_0 rfl ?_
  refine r_iload_n C dX12_meets_1 rfl ?_
  refine r_icmp_eq (tgt := 58) C dX12_meets_2 (by decide) (fun hc => ?_) (fun hc => ?_)
  · have hf := ifT hf hc
    exact V.sub (wX12_meets_b58 C hret hf) (LW_s rfl (LW_n (LW_n (LW_n (LW_e)))))
  · have hf := ifF hf hc
    refine r_aload_n C dX12_meets_5 rfl ?_
    obtain ⟨o1, eo1, hf⟩ := bS hf
    refine r_getR C dX12_meets_6 fl_X12_7 rfl eo1 ?_
    refine r_iload_n C dX12_meets_9 rfl ?_
    obtain ⟨v2, ev2, hf⟩ := bS hf
    refine r_iald C dX12_meets_10 ev2 ?_
    refine r_aload_n C dX12_meets_11 rfl ?_
    obtain ⟨o3, eo3, hf⟩ := bS hf
    refine r_getR C dX12_meets_12 fl_X12_7 rfl eo3 ?_
    refine r_iload_n C dX12_meets_15 rfl ?_
    obtain ⟨v4, ev4, hf⟩ := bS hf
    refine r_iald C dX12_meets_16 ev4 ?_
    refine r_icmp_ne (tgt := 58) C dX12_meets_17 (by decide) (fun hc => ?_) (fun hc => ?_)
    · have hf := ifF hf hc
      exact V.sub (wX12_meets_b58 C hret hf) (LW_s rfl (LW_n (LW_n (LW_n (LW_e)))))
    · have hf := ifT hf hc
      refine r_iload_n C dX12_meets_20 rfl ?_
      refine r_aload_n C dX12_meets_21 rfl ?_
      obtain ⟨o5, eo5, hf⟩ := bS hf
      refine r_getR C dX12_meets_22 fl_X12_19 rfl eo5 ?_
      refine r_iload_n C dX12_meets_25 rfl ?_
      obtain ⟨v6, ev6, hf⟩ := bS hf
      refine r_iald C dX12_meets_26 ev6 ?_
      refine r_aload_n C dX12_meets_27 rfl ?_
      obtain ⟨o7, eo7, hf⟩ := bS hf
      refine r_getR C dX12_meets_28 fl_X12_13 rfl eo7 ?_
      refine r_iload_n C dX12_meets_31 rfl ?_
      obtain ⟨v8, ev8, hf⟩ := bS hf
      refine r_iald C dX12_meets_32 ev8 ?_
      refine r_iadd C dX12_meets_33 ?_
      refine r_icmp_ge (tgt := 58) C dX12_meets_34 (by decide) (fun hc => ?_) (fun hc => ?_)
      · have hf := ifT hf hc
        exact V.sub (wX12_meets_b58 C hret hf) (LW_s rfl (LW_n (LW_n (LW_n (LW_e)))))
      · have hf := ifF hf hc
        refine r_aload_n C dX12_meets_37 rfl ?_
        obtain ⟨o9, eo9, hf⟩ := bS hf
        refine r_getR C dX12_meets_38 fl_X12_19 rfl eo9 ?_
        refine r_iload_n C dX12_meets_41 rfl ?_
        obtain ⟨v10, ev10, hf⟩ := bS hf
        refine r_iald C dX12_meets_42 ev10 ?_
        refine r_iload_n C dX12_meets_43 rfl ?_
        refine r_aload_n C dX12_meets_44 rfl ?_
        obtain ⟨o11, eo11, hf⟩ := bS hf
        refine r_getR C dX12_meets_45 fl_X12_13 rfl eo11 ?_
        refine r_iload_n C dX12_meets_48 rfl ?_
        obtain ⟨v12, ev12, hf⟩ := bS hf
        refine r_iald C dX12_meets_49 ev12 ?_
        refine r_iadd C dX12_meets_50 ?_
        refine r_icmp_ge (tgt := 58) C dX12_meets_51 (by decide) (fun hc => ?_) (fun hc => ?_)
        · have hf := ifT hf hc
          exact V.sub (wX12_meets_b58 C hret hf) (LW_s rfl (LW_n (LW_n (LW_n (LW_e)))))
        · have hf := ifF hf hc
          refine r_iconst (v := 1) C dX12_meets_54 (by decide) ?_
          refine r_goto (tgt := 59) C dX12_meets_55 (by decide) ?_
          exact V.sub (wX12_meets_b59 C hret hf) (LW_s rfl (LW_n (LW_n (LW_n (LW_e)))))

theorem dgX12_other_0 : (decode cX12_other 0 = .ok (.iconst 0, 1)) ∧ (decode cX12_other 1 = .ok (.istore_n 3, 1)) ∧ (decode cX12_other 2 = .ok (.iload_n 3, 1)) ∧ (decode cX12_other 3 = .ok (.aload_n 0, 1)) ∧ (decode cX12_other 4 = .ok (.getfield 146, 3)) ∧ (decode cX12_other 7 = .ok (.if_icmp .ge 21, 3)) ∧ (decode cX12_other 10 = .ok (.aload_n 0, 1)) ∧ (decode cX12_other 11 = .ok (.iload_n 1, 1)) ∧ (decode cX12_other 12 = .ok (.iload_n 2, 1)) ∧ (decode cX12_other 13 = .ok (.iload_n 3, 1)) ∧ (decode cX12_other 14 = .ok (.invokevirtual 159, 3)) ∧ (decode cX12_other 17 = .ok (.ifCond .eq 5, 3)) ∧ True := dkW [(0, .iconst 0, 1), (1, .istore_n 3, 1), (2, .iload_n 3, 1), (3, .aload_n 0, 1), (4, .getfield 146, 3), (7, .if_icmp .ge 21, 3), (10, .aload_n 0, 1), (11, .iload_n 1, 1), (12, .iload_n 2, 1), (13, .iload_n 3, 1), (14, .invokevirtual 159, 3), (17, .ifCond .eq 5, 3)] 0 (by decide +kernel)
theorem dX12_other_0 : decode cX12_other 0 = .ok (.iconst 0, 1) := dgX12_other_0.1
theorem dX12_other_1 : decode cX12_other 1 = .ok (.istore_n 3, 1) := dgX12_other_0.2.1
theorem dX12_other_2 : decode cX12_other 2 = .ok (.iload_n 3, 1) := dgX12_other_0.2.2.1
theorem dX12_other_3 : decode cX12_other 3 = .ok (.aload_n 0, 1) := dgX12_other_0.2.2.2.1
theorem dX12_other_4 : decode cX12_other 4 = .ok (.getfield 146, 3) := dgX12_other_0.2.2.2.2.1
theorem dX12_other_7 : decode cX12_other 7 = .ok (.if_icmp .ge 21, 3) := dgX12_other_0.2.2.2.2.2.1
theorem dX12_other_10 : decode cX12_other 10 = .ok (.aload_n 0, 1) := dgX12_other_0.2.2.2.2.2.2.1
theorem dX12_other_11 : decode cX12_other 11 = .ok (.iload_n 1, 1) := dgX12_other_0.2.2.2.2.2.2.2.1
theorem dX12_other_12 : decode cX12_other 12 = .ok (.iload_n 2, 1) := dgX12_other_0.2.2.2.2.2.2.2.2.1
theorem dX12_other_13 : decode cX12_other 13 = .ok (.iload_n 3, 1) := dgX12_other_0.2.2.2.2.2.2.2.2.2.1
theorem dX12_other_14 : decode cX12_other 14 = .ok (.invokevirtual 159, 3) := dgX12_other_0.2.2.2.2.2.2.2.2.2.2.1
theorem dX12_other_17 : decode cX12_other 17 = .ok (.ifCond .eq 5, 3) := dgX12_other_0.2.2.2.2.2.2.2.2.2.2.2.1
theorem dgX12_other_20 : (decode cX12_other 20 = .ok (.iload_n 3, 1)) ∧ (decode cX12_other 21 = .ok (.ireturn, 1)) ∧ (decode cX12_other 22 = .ok (.iinc 3 1, 3)) ∧ (decode cX12_other 25 = .ok (.goto (-23), 3)) ∧ True := dkW [(20, .iload_n 3, 1), (21, .ireturn, 1), (22, .iinc 3 1, 3), (25, .goto (-23), 3)] 20 (by decide +kernel)
theorem dX12_other_20 : decode cX12_other 20 = .ok (.iload_n 3, 1) := dgX12_other_20.1
theorem dX12_other_21 : decode cX12_other 21 = .ok (.ireturn, 1) := dgX12_other_20.2.1
theorem dX12_other_22 : decode cX12_other 22 = .ok (.iinc 3 1, 3) := dgX12_other_20.2.2.1
theorem dX12_other_25 : decode cX12_other 25 = .ok (.goto (-23), 3) := dgX12_other_20.2.2.2.1
theorem dX12_other_28 : decode cX12_other 28 = .ok (.iconst (-1), 1) := by decide +kernel
theorem dgX12_other_29 : (decode cX12_other 29 = .ok (.ireturn, 1)) ∧ True := dkW [(29, .ireturn, 1)] 29 (by decide +kernel)
theorem dX12_other_29 : decode cX12_other 29 = .ok (.ireturn, 1) := dgX12_other_29.1
abbrev rmX12_other : Room := { frames := 1, cells := 0, slots := 0, locals := 23 }
noncomputable def fX12_other_b2_body (N : Nat)  (g2 : Hs → Int32 → Int32 → Int32 → Option (Int32 × Hs)) (t : Nat) (h : Hs) (x1 : Int32) (x2 : Int32) (x3 : Int32) : Option (Int32 × Hs) :=
  (oI 12 1 h (some t)).bind fun v1 =>
  if v1 ≤ x3 then (
  some ((-1), h))
  else (rc 12 h (some t)).bind fun a3 =>
  (fX12_meets N h a3 x1 x2 x3).bind fun r2 =>
  if r2.1 = 0 then (
  (some (x3 + 1)).bind fun y4 =>
  g2 r2.2 x1 x2 y4)
  else some (x3, r2.2)
noncomputable def fX12_other_b2 (N : Nat)  (t : Nat) (n : Nat) : Hs → Int32 → Int32 → Int32 → Option (Int32 × Hs) := lp (fun _ _ _ _ => none) (fun g h x1 x2 x3 => fX12_other_b2_body N  g t h x1 x2 x3) n
set_option maxHeartbeats 4000000 in
set_option maxRecDepth 20000 in
theorem wX12_other_b2_body {p : Program} {l : Launch} {e : Env} {s : State} {m : MethodId} {args : Array Value} {below : List Frame} {meth : Method} {c : Code} {G : Gl} {N : Nat} {h : Hs} {r : Int32 × Hs}  {g2 : Hs → Int32 → Int32 → Int32 → Option (Int32 × Hs)} {t : Nat} {x1 : Int32} {x2 : Int32} {x3 : Int32} (C : Cx p s m args meth c cX12_other RX12 4 G) (hret : meth.sig.returnType = (some .int))  (hg2 : ∀ (h : Hs) (x1 : Int32) (x2 : Int32) (x3 : Int32), g2 h x1 x2 x3 = some r → V p l e rmX12_other s m args below meth c G 4 (MQ below (QcG G (some (.inl r.1)) r.2) args s rmX12_other.cells rmX12_other.slots (AG G)) h 0 0 2 [some (.inr (some t)), some (.inl x1), some (.inl x2), some (.inl x3)] []) (hf : fX12_other_b2_body N  g2 t h x1 x2 x3 = some r) : V p l e rmX12_other s m args below meth c G 4 (MQ below (QcG G (some (.inl r.1)) r.2) args s rmX12_other.cells rmX12_other.slots (AG G)) h 0 0 2 [some (.inr (some t)), some (.inl x1), some (.inl x2), some (.inl x3)] [] := by
  unfold fX12_other_b2_body at hf
  refine r_iload_n C dX12_other_2 rfl ?_
  refine r_aload_n C dX12_other_3 rfl ?_
  obtain ⟨v1, ev1, hf⟩ := bS hf
  refine r_getI C dX12_other_4 fl_X12_146 rfl ev1 ?_
  refine r_icmp_ge (tgt := 28) C dX12_other_7 (by decide) (fun hc => ?_) (fun hc => ?_)
  · have hf := ifT hf hc
    refine r_iconst (v := -1) C dX12_other_28 (by decide) ?_
    exact r_iretF C dX12_other_29 hret hf (by decide) (by decide)
  · have hf := ifF hf hc
    refine r_aload_n C dX12_other_10 rfl ?_
    refine r_iload_n C dX12_other_11 rfl ?_
    refine r_iload_n C dX12_other_12 rfl ?_
    refine r_iload_n C dX12_other_13 rfl ?_
    obtain ⟨a3, ea3, hf⟩ := bS hf
    obtain ⟨r2, er2, hf⟩ := bS hf
    refine r_invV1 (As := [.inl x1, .inl x2, .inl x3]) (ci := 12) C dX12_other_14 mcX12_meets wd_1284 wd_1286 wp_43 rfl rfl (by decide) ⟨by decide, by decide⟩ ⟨by decide, by decide⟩ rfl (Nat.le_of_ble_eq_true rfl) ea3 (kX12_meets l G er2) ?_
    refine r_if_eq (tgt := 22) C dX12_other_17 (by decide) (fun hc => ?_) (fun hc => ?_)
    · have hf := ifT hf hc
      obtain ⟨y4, ey4, hf⟩ := bS hf
      refine r_iincE (v := 1) C dX12_other_22 rfl (by decide) (by decide) ey4 ?_
      refine r_goto (tgt := 2) C dX12_other_25 (by decide) ?_
      exact V.sub (hg2 _ _ _ _ hf) (LW_s rfl (LW_s rfl (LW_s rfl (LW_s rfl (LW_e)))))
    · have hf := ifF hf hc
      refine r_iload_n C dX12_other_20 rfl ?_
      exact r_iretF C dX12_other_21 hret hf (by decide) (by decide)
theorem wX12_other_b2 {p : Program} {l : Launch} {e : Env} {s : State} {m : MethodId} {args : Array Value} {below : List Frame} {meth : Method} {c : Code} {G : Gl} {N : Nat} {r : Int32 × Hs}  {t : Nat} (C : Cx p s m args meth c cX12_other RX12 4 G) (hret : meth.sig.returnType = (some .int))  : ∀ (n : Nat) (h : Hs) (x1 : Int32) (x2 : Int32) (x3 : Int32), fX12_other_b2 N  t n h x1 x2 x3 = some r → V p l e rmX12_other s m args below meth c G 4 (MQ below (QcG G (some (.inl r.1)) r.2) args s rmX12_other.cells rmX12_other.slots (AG G)) h 0 0 2 [some (.inr (some t)), some (.inl x1), some (.inl x2), some (.inl x3)] [] := by
  intro n
  induction n with
  | zero => intro h x1 x2 x3 hf; exact absurd (show (none : Option (Int32 × Hs)) = some r from hf) (fun q => by cases q)
  | succ n ih => intro h x1 x2 x3 hf; exact wX12_other_b2_body C hret  ih (show fX12_other_b2_body N  (fX12_other_b2 N  t n) t h x1 x2 x3 = some r from hf)
noncomputable def fX12_other (N : Nat) (h : Hs) (t : Nat) (p1 : Int32) (p2 : Int32) : Option (Int32 × Hs) :=
  fX12_other_b2 N t N h p1 p2 0
set_option maxHeartbeats 4000000 in
set_option maxRecDepth 20000 in
theorem kX12_other (l : Launch) (G : Gl) {N : Nat} {h : Hs} {t : Nat} {p1 : Int32} {p2 : Int32} {r : Int32 × Hs} (hf : fX12_other N h t p1 p2 = some r) : CT l G yX12_other cX12_other 4 (some .int) rmX12_other [.inr (some t), .inl p1, .inl p2] h (some (.inl r.1)) r.2 := by
  refine mk_CT (by decide) (Nat.le_of_ble_eq_true rfl) ?_
  intro p e s m args below meth c C hret hin
  unfold fX12_other at hf
  refine r_iconst (v := 0) C dX12_other_0 (by decide) ?_
  refine r_istore_n C dX12_other_1 (by decide) ?_
  exact V.sub (wX12_other_b2 C hret N _ _ _ _ hf) (LW_s rfl (LW_s rfl (LW_s rfl (LW_s rfl (LW_e)))))

theorem dgX12_thing_0 : (decode cX12_thing 0 = .ok (.iload_n 1, 1)) ∧ (decode cX12_thing 1 = .ok (.iconst 0, 1)) ∧ (decode cX12_thing 2 = .ok (.sipush 1599, 3)) ∧ (decode cX12_thing 5 = .ok (.invokestatic 149, 3)) ∧ (decode cX12_thing 8 = .ok (.ifCond .eq 36, 3)) ∧ (decode cX12_thing 11 = .ok (.iload_n 2, 1)) ∧ (decode cX12_thing 12 = .ok (.iconst 1, 1)) ∧ (decode cX12_thing 13 = .ok (.bipush 60, 2)) ∧ (decode cX12_thing 15 = .ok (.invokestatic 149, 3)) ∧ (decode cX12_thing 18 = .ok (.ifCond .eq 26, 3)) ∧ (decode cX12_thing 21 = .ok (.iload_n 3, 1)) ∧ (decode cX12_thing 22 = .ok (.iconst 0, 1)) ∧ True := dkW [(0, .iload_n 1, 1), (1, .iconst 0, 1), (2, .sipush 1599, 3), (5, .invokestatic 149, 3), (8, .ifCond .eq 36, 3), (11, .iload_n 2, 1), (12, .iconst 1, 1), (13, .bipush 60, 2), (15, .invokestatic 149, 3), (18, .ifCond .eq 26, 3), (21, .iload_n 3, 1), (22, .iconst 0, 1)] 0 (by decide +kernel)
theorem dX12_thing_0 : decode cX12_thing 0 = .ok (.iload_n 1, 1) := dgX12_thing_0.1
theorem dX12_thing_1 : decode cX12_thing 1 = .ok (.iconst 0, 1) := dgX12_thing_0.2.1
theorem dX12_thing_2 : decode cX12_thing 2 = .ok (.sipush 1599, 3) := dgX12_thing_0.2.2.1
theorem dX12_thing_5 : decode cX12_thing 5 = .ok (.invokestatic 149, 3) := dgX12_thing_0.2.2.2.1
theorem dX12_thing_8 : decode cX12_thing 8 = .ok (.ifCond .eq 36, 3) := dgX12_thing_0.2.2.2.2.1
theorem dX12_thing_11 : decode cX12_thing 11 = .ok (.iload_n 2, 1) := dgX12_thing_0.2.2.2.2.2.1
theorem dX12_thing_12 : decode cX12_thing 12 = .ok (.iconst 1, 1) := dgX12_thing_0.2.2.2.2.2.2.1
theorem dX12_thing_13 : decode cX12_thing 13 = .ok (.bipush 60, 2) := dgX12_thing_0.2.2.2.2.2.2.2.1
theorem dX12_thing_15 : decode cX12_thing 15 = .ok (.invokestatic 149, 3) := dgX12_thing_0.2.2.2.2.2.2.2.2.1
theorem dX12_thing_18 : decode cX12_thing 18 = .ok (.ifCond .eq 26, 3) := dgX12_thing_0.2.2.2.2.2.2.2.2.2.1
theorem dX12_thing_21 : decode cX12_thing 21 = .ok (.iload_n 3, 1) := dgX12_thing_0.2.2.2.2.2.2.2.2.2.2.1
theorem dX12_thing_22 : decode cX12_thing 22 = .ok (.iconst 0, 1) := dgX12_thing_0.2.2.2.2.2.2.2.2.2.2.2.1
theorem dgX12_thing_23 : (decode cX12_thing 23 = .ok (.sipush 9999, 3)) ∧ (decode cX12_thing 26 = .ok (.invokestatic 149, 3)) ∧ (decode cX12_thing 29 = .ok (.ifCond .eq 15, 3)) ∧ (decode cX12_thing 32 = .ok (.iload 4, 2)) ∧ (decode cX12_thing 34 = .ok (.iconst 0, 1)) ∧ (decode cX12_thing 35 = .ok (.sipush 999, 3)) ∧ (decode cX12_thing 38 = .ok (.invokestatic 149, 3)) ∧ (decode cX12_thing 41 = .ok (.ifCond .ne 5, 3)) ∧ True := dkW [(23, .sipush 9999, 3), (26, .invokestatic 149, 3), (29, .ifCond .eq 15, 3), (32, .iload 4, 2), (34, .iconst 0, 1), (35, .sipush 999, 3), (38, .invokestatic 149, 3), (41, .ifCond .ne 5, 3)] 23 (by decide +kernel)
theorem dX12_thing_23 : decode cX12_thing 23 = .ok (.sipush 9999, 3) := dgX12_thing_23.1
theorem dX12_thing_26 : decode cX12_thing 26 = .ok (.invokestatic 149, 3) := dgX12_thing_23.2.1
theorem dX12_thing_29 : decode cX12_thing 29 = .ok (.ifCond .eq 15, 3) := dgX12_thing_23.2.2.1
theorem dX12_thing_32 : decode cX12_thing 32 = .ok (.iload 4, 2) := dgX12_thing_23.2.2.2.1
theorem dX12_thing_34 : decode cX12_thing 34 = .ok (.iconst 0, 1) := dgX12_thing_23.2.2.2.2.1
theorem dX12_thing_35 : decode cX12_thing 35 = .ok (.sipush 999, 3) := dgX12_thing_23.2.2.2.2.2.1
theorem dX12_thing_38 : decode cX12_thing 38 = .ok (.invokestatic 149, 3) := dgX12_thing_23.2.2.2.2.2.2.1
theorem dX12_thing_41 : decode cX12_thing 41 = .ok (.ifCond .ne 5, 3) := dgX12_thing_23.2.2.2.2.2.2.2.1
theorem dX12_thing_44 : decode cX12_thing 44 = .ok (.iconst (-1), 1) := by decide +kernel
theorem dgX12_thing_45 : (decode cX12_thing 45 = .ok (.ireturn, 1)) ∧ (decode cX12_thing 46 = .ok (.iload_n 1, 1)) ∧ (decode cX12_thing 47 = .ok (.bipush 100, 2)) ∧ (decode cX12_thing 49 = .ok (.irem, 1)) ∧ (decode cX12_thing 50 = .ok (.istore 5, 2)) ∧ (decode cX12_thing 52 = .ok (.iload_n 3, 1)) ∧ (decode cX12_thing 53 = .ok (.bipush 100, 2)) ∧ (decode cX12_thing 55 = .ok (.idiv, 1)) ∧ (decode cX12_thing 56 = .ok (.iload 5, 2)) ∧ (decode cX12_thing 58 = .ok (.if_icmp .gt 23, 3)) ∧ (decode cX12_thing 61 = .ok (.iload 5, 2)) ∧ (decode cX12_thing 63 = .ok (.iload_n 3, 1)) ∧ True := dkW [(45, .ireturn, 1), (46, .iload_n 1, 1), (47, .bipush 100, 2), (49, .irem, 1), (50, .istore 5, 2), (52, .iload_n 3, 1), (53, .bipush 100, 2), (55, .idiv, 1), (56, .iload 5, 2), (58, .if_icmp .gt 23, 3), (61, .iload 5, 2), (63, .iload_n 3, 1)] 45 (by decide +kernel)
theorem dX12_thing_45 : decode cX12_thing 45 = .ok (.ireturn, 1) := dgX12_thing_45.1
theorem dX12_thing_46 : decode cX12_thing 46 = .ok (.iload_n 1, 1) := dgX12_thing_45.2.1
theorem dX12_thing_47 : decode cX12_thing 47 = .ok (.bipush 100, 2) := dgX12_thing_45.2.2.1
theorem dX12_thing_49 : decode cX12_thing 49 = .ok (.irem, 1) := dgX12_thing_45.2.2.2.1
theorem dX12_thing_50 : decode cX12_thing 50 = .ok (.istore 5, 2) := dgX12_thing_45.2.2.2.2.1
theorem dX12_thing_52 : decode cX12_thing 52 = .ok (.iload_n 3, 1) := dgX12_thing_45.2.2.2.2.2.1
theorem dX12_thing_53 : decode cX12_thing 53 = .ok (.bipush 100, 2) := dgX12_thing_45.2.2.2.2.2.2.1
theorem dX12_thing_55 : decode cX12_thing 55 = .ok (.idiv, 1) := dgX12_thing_45.2.2.2.2.2.2.2.1
theorem dX12_thing_56 : decode cX12_thing 56 = .ok (.iload 5, 2) := dgX12_thing_45.2.2.2.2.2.2.2.2.1
theorem dX12_thing_58 : decode cX12_thing 58 = .ok (.if_icmp .gt 23, 3) := dgX12_thing_45.2.2.2.2.2.2.2.2.2.1
theorem dX12_thing_61 : decode cX12_thing 61 = .ok (.iload 5, 2) := dgX12_thing_45.2.2.2.2.2.2.2.2.2.2.1
theorem dX12_thing_63 : decode cX12_thing 63 = .ok (.iload_n 3, 1) := dgX12_thing_45.2.2.2.2.2.2.2.2.2.2.2.1
theorem dgX12_thing_64 : (decode cX12_thing 64 = .ok (.bipush 100, 2)) ∧ (decode cX12_thing 66 = .ok (.irem, 1)) ∧ (decode cX12_thing 67 = .ok (.if_icmp .gt 14, 3)) ∧ (decode cX12_thing 70 = .ok (.iload_n 3, 1)) ∧ (decode cX12_thing 71 = .ok (.bipush 100, 2)) ∧ (decode cX12_thing 73 = .ok (.irem, 1)) ∧ (decode cX12_thing 74 = .ok (.iload_n 2, 1)) ∧ (decode cX12_thing 75 = .ok (.iadd, 1)) ∧ (decode cX12_thing 76 = .ok (.bipush 100, 2)) ∧ (decode cX12_thing 78 = .ok (.if_icmp .le 5, 3)) ∧ True := dkW [(64, .bipush 100, 2), (66, .irem, 1), (67, .if_icmp .gt 14, 3), (70, .iload_n 3, 1), (71, .bipush 100, 2), (73, .irem, 1), (74, .iload_n 2, 1), (75, .iadd, 1), (76, .bipush 100, 2), (78, .if_icmp .le 5, 3)] 64 (by decide +kernel)
theorem dX12_thing_64 : decode cX12_thing 64 = .ok (.bipush 100, 2) := dgX12_thing_64.1
theorem dX12_thing_66 : decode cX12_thing 66 = .ok (.irem, 1) := dgX12_thing_64.2.1
theorem dX12_thing_67 : decode cX12_thing 67 = .ok (.if_icmp .gt 14, 3) := dgX12_thing_64.2.2.1
theorem dX12_thing_70 : decode cX12_thing 70 = .ok (.iload_n 3, 1) := dgX12_thing_64.2.2.2.1
theorem dX12_thing_71 : decode cX12_thing 71 = .ok (.bipush 100, 2) := dgX12_thing_64.2.2.2.2.1
theorem dX12_thing_73 : decode cX12_thing 73 = .ok (.irem, 1) := dgX12_thing_64.2.2.2.2.2.1
theorem dX12_thing_74 : decode cX12_thing 74 = .ok (.iload_n 2, 1) := dgX12_thing_64.2.2.2.2.2.2.1
theorem dX12_thing_75 : decode cX12_thing 75 = .ok (.iadd, 1) := dgX12_thing_64.2.2.2.2.2.2.2.1
theorem dX12_thing_76 : decode cX12_thing 76 = .ok (.bipush 100, 2) := dgX12_thing_64.2.2.2.2.2.2.2.2.1
theorem dX12_thing_78 : decode cX12_thing 78 = .ok (.if_icmp .le 5, 3) := dgX12_thing_64.2.2.2.2.2.2.2.2.2.1
theorem dX12_thing_81 : decode cX12_thing 81 = .ok (.iconst (-1), 1) := by decide +kernel
theorem dgX12_thing_82 : (decode cX12_thing 82 = .ok (.ireturn, 1)) ∧ (decode cX12_thing 83 = .ok (.iconst 0, 1)) ∧ (decode cX12_thing 84 = .ok (.istore 6, 2)) ∧ (decode cX12_thing 86 = .ok (.iload 6, 2)) ∧ (decode cX12_thing 88 = .ok (.aload_n 0, 1)) ∧ (decode cX12_thing 89 = .ok (.getfield 146, 3)) ∧ (decode cX12_thing 92 = .ok (.if_icmp .ge 60, 3)) ∧ (decode cX12_thing 95 = .ok (.aload_n 0, 1)) ∧ (decode cX12_thing 96 = .ok (.getfield 7, 3)) ∧ (decode cX12_thing 99 = .ok (.iload 6, 2)) ∧ (decode cX12_thing 101 = .ok (.iaload, 1)) ∧ (decode cX12_thing 102 = .ok (.iload_n 1, 1)) ∧ True := dkW [(82, .ireturn, 1), (83, .iconst 0, 1), (84, .istore 6, 2), (86, .iload 6, 2), (88, .aload_n 0, 1), (89, .getfield 146, 3), (92, .if_icmp .ge 60, 3), (95, .aload_n 0, 1), (96, .getfield 7, 3), (99, .iload 6, 2), (101, .iaload, 1), (102, .iload_n 1, 1)] 82 (by decide +kernel)
theorem dX12_thing_82 : decode cX12_thing 82 = .ok (.ireturn, 1) := dgX12_thing_82.1
theorem dX12_thing_83 : decode cX12_thing 83 = .ok (.iconst 0, 1) := dgX12_thing_82.2.1
theorem dX12_thing_84 : decode cX12_thing 84 = .ok (.istore 6, 2) := dgX12_thing_82.2.2.1
theorem dX12_thing_86 : decode cX12_thing 86 = .ok (.iload 6, 2) := dgX12_thing_82.2.2.2.1
theorem dX12_thing_88 : decode cX12_thing 88 = .ok (.aload_n 0, 1) := dgX12_thing_82.2.2.2.2.1
theorem dX12_thing_89 : decode cX12_thing 89 = .ok (.getfield 146, 3) := dgX12_thing_82.2.2.2.2.2.1
theorem dX12_thing_92 : decode cX12_thing 92 = .ok (.if_icmp .ge 60, 3) := dgX12_thing_82.2.2.2.2.2.2.1
theorem dX12_thing_95 : decode cX12_thing 95 = .ok (.aload_n 0, 1) := dgX12_thing_82.2.2.2.2.2.2.2.1
theorem dX12_thing_96 : decode cX12_thing 96 = .ok (.getfield 7, 3) := dgX12_thing_82.2.2.2.2.2.2.2.2.1
theorem dX12_thing_99 : decode cX12_thing 99 = .ok (.iload 6, 2) := dgX12_thing_82.2.2.2.2.2.2.2.2.2.1
theorem dX12_thing_101 : decode cX12_thing 101 = .ok (.iaload, 1) := dgX12_thing_82.2.2.2.2.2.2.2.2.2.2.1
theorem dX12_thing_102 : decode cX12_thing 102 = .ok (.iload_n 1, 1) := dgX12_thing_82.2.2.2.2.2.2.2.2.2.2.2.1
theorem dgX12_thing_103 : (decode cX12_thing 103 = .ok (.bipush 100, 2)) ∧ (decode cX12_thing 105 = .ok (.idiv, 1)) ∧ (decode cX12_thing 106 = .ok (.if_icmp .ne 40, 3)) ∧ (decode cX12_thing 109 = .ok (.iload 5, 2)) ∧ (decode cX12_thing 111 = .ok (.aload_n 0, 1)) ∧ (decode cX12_thing 112 = .ok (.getfield 19, 3)) ∧ (decode cX12_thing 115 = .ok (.iload 6, 2)) ∧ (decode cX12_thing 117 = .ok (.iaload, 1)) ∧ (decode cX12_thing 118 = .ok (.aload_n 0, 1)) ∧ (decode cX12_thing 119 = .ok (.getfield 13, 3)) ∧ (decode cX12_thing 122 = .ok (.iload 6, 2)) ∧ (decode cX12_thing 124 = .ok (.iaload, 1)) ∧ True := dkW [(103, .bipush 100, 2), (105, .idiv, 1), (106, .if_icmp .ne 40, 3), (109, .iload 5, 2), (111, .aload_n 0, 1), (112, .getfield 19, 3), (115, .iload 6, 2), (117, .iaload, 1), (118, .aload_n 0, 1), (119, .getfield 13, 3), (122, .iload 6, 2), (124, .iaload, 1)] 103 (by decide +kernel)
theorem dX12_thing_103 : decode cX12_thing 103 = .ok (.bipush 100, 2) := dgX12_thing_103.1
theorem dX12_thing_105 : decode cX12_thing 105 = .ok (.idiv, 1) := dgX12_thing_103.2.1
theorem dX12_thing_106 : decode cX12_thing 106 = .ok (.if_icmp .ne 40, 3) := dgX12_thing_103.2.2.1
theorem dX12_thing_109 : decode cX12_thing 109 = .ok (.iload 5, 2) := dgX12_thing_103.2.2.2.1
theorem dX12_thing_111 : decode cX12_thing 111 = .ok (.aload_n 0, 1) := dgX12_thing_103.2.2.2.2.1
theorem dX12_thing_112 : decode cX12_thing 112 = .ok (.getfield 19, 3) := dgX12_thing_103.2.2.2.2.2.1
theorem dX12_thing_115 : decode cX12_thing 115 = .ok (.iload 6, 2) := dgX12_thing_103.2.2.2.2.2.2.1
theorem dX12_thing_117 : decode cX12_thing 117 = .ok (.iaload, 1) := dgX12_thing_103.2.2.2.2.2.2.2.1
theorem dX12_thing_118 : decode cX12_thing 118 = .ok (.aload_n 0, 1) := dgX12_thing_103.2.2.2.2.2.2.2.2.1
theorem dX12_thing_119 : decode cX12_thing 119 = .ok (.getfield 13, 3) := dgX12_thing_103.2.2.2.2.2.2.2.2.2.1
theorem dX12_thing_122 : decode cX12_thing 122 = .ok (.iload 6, 2) := dgX12_thing_103.2.2.2.2.2.2.2.2.2.2.1
theorem dX12_thing_124 : decode cX12_thing 124 = .ok (.iaload, 1) := dgX12_thing_103.2.2.2.2.2.2.2.2.2.2.2.1
theorem dgX12_thing_125 : (decode cX12_thing 125 = .ok (.iadd, 1)) ∧ (decode cX12_thing 126 = .ok (.if_icmp .ge 20, 3)) ∧ (decode cX12_thing 129 = .ok (.aload_n 0, 1)) ∧ (decode cX12_thing 130 = .ok (.getfield 19, 3)) ∧ (decode cX12_thing 133 = .ok (.iload 6, 2)) ∧ (decode cX12_thing 135 = .ok (.iaload, 1)) ∧ (decode cX12_thing 136 = .ok (.iload 5, 2)) ∧ (decode cX12_thing 138 = .ok (.iload_n 2, 1)) ∧ (decode cX12_thing 139 = .ok (.iadd, 1)) ∧ (decode cX12_thing 140 = .ok (.if_icmp .ge 6, 3)) ∧ (decode cX12_thing 143 = .ok (.bipush (-2), 2)) ∧ (decode cX12_thing 145 = .ok (.ireturn, 1)) ∧ True := dkW [(125, .iadd, 1), (126, .if_icmp .ge 20, 3), (129, .aload_n 0, 1), (130, .getfield 19, 3), (133, .iload 6, 2), (135, .iaload, 1), (136, .iload 5, 2), (138, .iload_n 2, 1), (139, .iadd, 1), (140, .if_icmp .ge 6, 3), (143, .bipush (-2), 2), (145, .ireturn, 1)] 125 (by decide +kernel)
theorem dX12_thing_125 : decode cX12_thing 125 = .ok (.iadd, 1) := dgX12_thing_125.1
theorem dX12_thing_126 : decode cX12_thing 126 = .ok (.if_icmp .ge 20, 3) := dgX12_thing_125.2.1
theorem dX12_thing_129 : decode cX12_thing 129 = .ok (.aload_n 0, 1) := dgX12_thing_125.2.2.1
theorem dX12_thing_130 : decode cX12_thing 130 = .ok (.getfield 19, 3) := dgX12_thing_125.2.2.2.1
theorem dX12_thing_133 : decode cX12_thing 133 = .ok (.iload 6, 2) := dgX12_thing_125.2.2.2.2.1
theorem dX12_thing_135 : decode cX12_thing 135 = .ok (.iaload, 1) := dgX12_thing_125.2.2.2.2.2.1
theorem dX12_thing_136 : decode cX12_thing 136 = .ok (.iload 5, 2) := dgX12_thing_125.2.2.2.2.2.2.1
theorem dX12_thing_138 : decode cX12_thing 138 = .ok (.iload_n 2, 1) := dgX12_thing_125.2.2.2.2.2.2.2.1
theorem dX12_thing_139 : decode cX12_thing 139 = .ok (.iadd, 1) := dgX12_thing_125.2.2.2.2.2.2.2.2.1
theorem dX12_thing_140 : decode cX12_thing 140 = .ok (.if_icmp .ge 6, 3) := dgX12_thing_125.2.2.2.2.2.2.2.2.2.1
theorem dX12_thing_143 : decode cX12_thing 143 = .ok (.bipush (-2), 2) := dgX12_thing_125.2.2.2.2.2.2.2.2.2.2.1
theorem dX12_thing_145 : decode cX12_thing 145 = .ok (.ireturn, 1) := dgX12_thing_125.2.2.2.2.2.2.2.2.2.2.2.1
theorem dgX12_thing_146 : (decode cX12_thing 146 = .ok (.iinc 6 1, 3)) ∧ (decode cX12_thing 149 = .ok (.goto (-63), 3)) ∧ (decode cX12_thing 152 = .ok (.aload_n 0, 1)) ∧ (decode cX12_thing 153 = .ok (.getfield 146, 3)) ∧ (decode cX12_thing 156 = .ok (.bipush 40, 2)) ∧ (decode cX12_thing 158 = .ok (.if_icmp .ne 6, 3)) ∧ (decode cX12_thing 161 = .ok (.bipush (-3), 2)) ∧ (decode cX12_thing 163 = .ok (.ireturn, 1)) ∧ (decode cX12_thing 164 = .ok (.aload_n 0, 1)) ∧ (decode cX12_thing 165 = .ok (.getfield 146, 3)) ∧ (decode cX12_thing 168 = .ok (.istore 6, 2)) ∧ (decode cX12_thing 170 = .ok (.aload_n 0, 1)) ∧ True := dkW [(146, .iinc 6 1, 3), (149, .goto (-63), 3), (152, .aload_n 0, 1), (153, .getfield 146, 3), (156, .bipush 40, 2), (158, .if_icmp .ne 6, 3), (161, .bipush (-3), 2), (163, .ireturn, 1), (164, .aload_n 0, 1), (165, .getfield 146, 3), (168, .istore 6, 2), (170, .aload_n 0, 1)] 146 (by decide +kernel)
theorem dX12_thing_146 : decode cX12_thing 146 = .ok (.iinc 6 1, 3) := dgX12_thing_146.1
theorem dX12_thing_149 : decode cX12_thing 149 = .ok (.goto (-63), 3) := dgX12_thing_146.2.1
theorem dX12_thing_152 : decode cX12_thing 152 = .ok (.aload_n 0, 1) := dgX12_thing_146.2.2.1
theorem dX12_thing_153 : decode cX12_thing 153 = .ok (.getfield 146, 3) := dgX12_thing_146.2.2.2.1
theorem dX12_thing_156 : decode cX12_thing 156 = .ok (.bipush 40, 2) := dgX12_thing_146.2.2.2.2.1
theorem dX12_thing_158 : decode cX12_thing 158 = .ok (.if_icmp .ne 6, 3) := dgX12_thing_146.2.2.2.2.2.1
theorem dX12_thing_161 : decode cX12_thing 161 = .ok (.bipush (-3), 2) := dgX12_thing_146.2.2.2.2.2.2.1
theorem dX12_thing_163 : decode cX12_thing 163 = .ok (.ireturn, 1) := dgX12_thing_146.2.2.2.2.2.2.2.1
theorem dX12_thing_164 : decode cX12_thing 164 = .ok (.aload_n 0, 1) := dgX12_thing_146.2.2.2.2.2.2.2.2.1
theorem dX12_thing_165 : decode cX12_thing 165 = .ok (.getfield 146, 3) := dgX12_thing_146.2.2.2.2.2.2.2.2.2.1
theorem dX12_thing_168 : decode cX12_thing 168 = .ok (.istore 6, 2) := dgX12_thing_146.2.2.2.2.2.2.2.2.2.2.1
theorem dX12_thing_170 : decode cX12_thing 170 = .ok (.aload_n 0, 1) := dgX12_thing_146.2.2.2.2.2.2.2.2.2.2.2.1
theorem dgX12_thing_171 : (decode cX12_thing 171 = .ok (.getfield 7, 3)) ∧ (decode cX12_thing 174 = .ok (.iload 6, 2)) ∧ (decode cX12_thing 176 = .ok (.iload_n 1, 1)) ∧ (decode cX12_thing 177 = .ok (.bipush 100, 2)) ∧ (decode cX12_thing 179 = .ok (.idiv, 1)) ∧ (decode cX12_thing 180 = .ok (.iastore, 1)) ∧ (decode cX12_thing 181 = .ok (.aload_n 0, 1)) ∧ (decode cX12_thing 182 = .ok (.getfield 13, 3)) ∧ (decode cX12_thing 185 = .ok (.iload 6, 2)) ∧ (decode cX12_thing 187 = .ok (.iload_n 2, 1)) ∧ (decode cX12_thing 188 = .ok (.iastore, 1)) ∧ (decode cX12_thing 189 = .ok (.aload_n 0, 1)) ∧ True := dkW [(171, .getfield 7, 3), (174, .iload 6, 2), (176, .iload_n 1, 1), (177, .bipush 100, 2), (179, .idiv, 1), (180, .iastore, 1), (181, .aload_n 0, 1), (182, .getfield 13, 3), (185, .iload 6, 2), (187, .iload_n 2, 1), (188, .iastore, 1), (189, .aload_n 0, 1)] 171 (by decide +kernel)
theorem dX12_thing_171 : decode cX12_thing 171 = .ok (.getfield 7, 3) := dgX12_thing_171.1
theorem dX12_thing_174 : decode cX12_thing 174 = .ok (.iload 6, 2) := dgX12_thing_171.2.1
theorem dX12_thing_176 : decode cX12_thing 176 = .ok (.iload_n 1, 1) := dgX12_thing_171.2.2.1
theorem dX12_thing_177 : decode cX12_thing 177 = .ok (.bipush 100, 2) := dgX12_thing_171.2.2.2.1
theorem dX12_thing_179 : decode cX12_thing 179 = .ok (.idiv, 1) := dgX12_thing_171.2.2.2.2.1
theorem dX12_thing_180 : decode cX12_thing 180 = .ok (.iastore, 1) := dgX12_thing_171.2.2.2.2.2.1
theorem dX12_thing_181 : decode cX12_thing 181 = .ok (.aload_n 0, 1) := dgX12_thing_171.2.2.2.2.2.2.1
theorem dX12_thing_182 : decode cX12_thing 182 = .ok (.getfield 13, 3) := dgX12_thing_171.2.2.2.2.2.2.2.1
theorem dX12_thing_185 : decode cX12_thing 185 = .ok (.iload 6, 2) := dgX12_thing_171.2.2.2.2.2.2.2.2.1
theorem dX12_thing_187 : decode cX12_thing 187 = .ok (.iload_n 2, 1) := dgX12_thing_171.2.2.2.2.2.2.2.2.2.1
theorem dX12_thing_188 : decode cX12_thing 188 = .ok (.iastore, 1) := dgX12_thing_171.2.2.2.2.2.2.2.2.2.2.1
theorem dX12_thing_189 : decode cX12_thing 189 = .ok (.aload_n 0, 1) := dgX12_thing_171.2.2.2.2.2.2.2.2.2.2.2.1
theorem dgX12_thing_190 : (decode cX12_thing 190 = .ok (.getfield 16, 3)) ∧ (decode cX12_thing 193 = .ok (.iload 6, 2)) ∧ (decode cX12_thing 195 = .ok (.iload 4, 2)) ∧ (decode cX12_thing 197 = .ok (.iastore, 1)) ∧ (decode cX12_thing 198 = .ok (.aload_n 0, 1)) ∧ (decode cX12_thing 199 = .ok (.getfield 19, 3)) ∧ (decode cX12_thing 202 = .ok (.iload 6, 2)) ∧ (decode cX12_thing 204 = .ok (.iload 5, 2)) ∧ (decode cX12_thing 206 = .ok (.iastore, 1)) ∧ (decode cX12_thing 207 = .ok (.aload_n 0, 1)) ∧ (decode cX12_thing 208 = .ok (.getfield 22, 3)) ∧ (decode cX12_thing 211 = .ok (.iload 6, 2)) ∧ True := dkW [(190, .getfield 16, 3), (193, .iload 6, 2), (195, .iload 4, 2), (197, .iastore, 1), (198, .aload_n 0, 1), (199, .getfield 19, 3), (202, .iload 6, 2), (204, .iload 5, 2), (206, .iastore, 1), (207, .aload_n 0, 1), (208, .getfield 22, 3), (211, .iload 6, 2)] 190 (by decide +kernel)
theorem dX12_thing_190 : decode cX12_thing 190 = .ok (.getfield 16, 3) := dgX12_thing_190.1
theorem dX12_thing_193 : decode cX12_thing 193 = .ok (.iload 6, 2) := dgX12_thing_190.2.1
theorem dX12_thing_195 : decode cX12_thing 195 = .ok (.iload 4, 2) := dgX12_thing_190.2.2.1
theorem dX12_thing_197 : decode cX12_thing 197 = .ok (.iastore, 1) := dgX12_thing_190.2.2.2.1
theorem dX12_thing_198 : decode cX12_thing 198 = .ok (.aload_n 0, 1) := dgX12_thing_190.2.2.2.2.1
theorem dX12_thing_199 : decode cX12_thing 199 = .ok (.getfield 19, 3) := dgX12_thing_190.2.2.2.2.2.1
theorem dX12_thing_202 : decode cX12_thing 202 = .ok (.iload 6, 2) := dgX12_thing_190.2.2.2.2.2.2.1
theorem dX12_thing_204 : decode cX12_thing 204 = .ok (.iload 5, 2) := dgX12_thing_190.2.2.2.2.2.2.2.1
theorem dX12_thing_206 : decode cX12_thing 206 = .ok (.iastore, 1) := dgX12_thing_190.2.2.2.2.2.2.2.2.1
theorem dX12_thing_207 : decode cX12_thing 207 = .ok (.aload_n 0, 1) := dgX12_thing_190.2.2.2.2.2.2.2.2.2.1
theorem dX12_thing_208 : decode cX12_thing 208 = .ok (.getfield 22, 3) := dgX12_thing_190.2.2.2.2.2.2.2.2.2.2.1
theorem dX12_thing_211 : decode cX12_thing 211 = .ok (.iload 6, 2) := dgX12_thing_190.2.2.2.2.2.2.2.2.2.2.2.1
theorem dgX12_thing_213 : (decode cX12_thing 213 = .ok (.iload_n 3, 1)) ∧ (decode cX12_thing 214 = .ok (.bipush 100, 2)) ∧ (decode cX12_thing 216 = .ok (.idiv, 1)) ∧ (decode cX12_thing 217 = .ok (.iastore, 1)) ∧ (decode cX12_thing 218 = .ok (.aload_n 0, 1)) ∧ (decode cX12_thing 219 = .ok (.getfield 25, 3)) ∧ (decode cX12_thing 222 = .ok (.iload 6, 2)) ∧ (decode cX12_thing 224 = .ok (.iload_n 3, 1)) ∧ (decode cX12_thing 225 = .ok (.bipush 100, 2)) ∧ (decode cX12_thing 227 = .ok (.irem, 1)) ∧ (decode cX12_thing 228 = .ok (.iastore, 1)) ∧ (decode cX12_thing 229 = .ok (.iconst 0, 1)) ∧ True := dkW [(213, .iload_n 3, 1), (214, .bipush 100, 2), (216, .idiv, 1), (217, .iastore, 1), (218, .aload_n 0, 1), (219, .getfield 25, 3), (222, .iload 6, 2), (224, .iload_n 3, 1), (225, .bipush 100, 2), (227, .irem, 1), (228, .iastore, 1), (229, .iconst 0, 1)] 213 (by decide +kernel)
theorem dX12_thing_213 : decode cX12_thing 213 = .ok (.iload_n 3, 1) := dgX12_thing_213.1
theorem dX12_thing_214 : decode cX12_thing 214 = .ok (.bipush 100, 2) := dgX12_thing_213.2.1
theorem dX12_thing_216 : decode cX12_thing 216 = .ok (.idiv, 1) := dgX12_thing_213.2.2.1
theorem dX12_thing_217 : decode cX12_thing 217 = .ok (.iastore, 1) := dgX12_thing_213.2.2.2.1
theorem dX12_thing_218 : decode cX12_thing 218 = .ok (.aload_n 0, 1) := dgX12_thing_213.2.2.2.2.1
theorem dX12_thing_219 : decode cX12_thing 219 = .ok (.getfield 25, 3) := dgX12_thing_213.2.2.2.2.2.1
theorem dX12_thing_222 : decode cX12_thing 222 = .ok (.iload 6, 2) := dgX12_thing_213.2.2.2.2.2.2.1
theorem dX12_thing_224 : decode cX12_thing 224 = .ok (.iload_n 3, 1) := dgX12_thing_213.2.2.2.2.2.2.2.1
theorem dX12_thing_225 : decode cX12_thing 225 = .ok (.bipush 100, 2) := dgX12_thing_213.2.2.2.2.2.2.2.2.1
theorem dX12_thing_227 : decode cX12_thing 227 = .ok (.irem, 1) := dgX12_thing_213.2.2.2.2.2.2.2.2.2.1
theorem dX12_thing_228 : decode cX12_thing 228 = .ok (.iastore, 1) := dgX12_thing_213.2.2.2.2.2.2.2.2.2.2.1
theorem dX12_thing_229 : decode cX12_thing 229 = .ok (.iconst 0, 1) := dgX12_thing_213.2.2.2.2.2.2.2.2.2.2.2.1
theorem dgX12_thing_230 : (decode cX12_thing 230 = .ok (.istore 7, 2)) ∧ (decode cX12_thing 232 = .ok (.iload 7, 2)) ∧ (decode cX12_thing 234 = .ok (.bipush 10, 2)) ∧ (decode cX12_thing 236 = .ok (.if_icmp .ge 23, 3)) ∧ (decode cX12_thing 239 = .ok (.aload_n 0, 1)) ∧ (decode cX12_thing 240 = .ok (.getfield 76, 3)) ∧ (decode cX12_thing 243 = .ok (.bipush 40, 2)) ∧ (decode cX12_thing 245 = .ok (.iload 7, 2)) ∧ (decode cX12_thing 247 = .ok (.imul, 1)) ∧ (decode cX12_thing 248 = .ok (.iload 6, 2)) ∧ (decode cX12_thing 250 = .ok (.iadd, 1)) ∧ True := dkW [(230, .istore 7, 2), (232, .iload 7, 2), (234, .bipush 10, 2), (236, .if_icmp .ge 23, 3), (239, .aload_n 0, 1), (240, .getfield 76, 3), (243, .bipush 40, 2), (245, .iload 7, 2), (247, .imul, 1), (248, .iload 6, 2), (250, .iadd, 1)] 230 (by decide +kernel)
theorem dX12_thing_230 : decode cX12_thing 230 = .ok (.istore 7, 2) := dgX12_thing_230.1
theorem dX12_thing_232 : decode cX12_thing 232 = .ok (.iload 7, 2) := dgX12_thing_230.2.1
theorem dX12_thing_234 : decode cX12_thing 234 = .ok (.bipush 10, 2) := dgX12_thing_230.2.2.1
theorem dX12_thing_236 : decode cX12_thing 236 = .ok (.if_icmp .ge 23, 3) := dgX12_thing_230.2.2.2.1
theorem dX12_thing_239 : decode cX12_thing 239 = .ok (.aload_n 0, 1) := dgX12_thing_230.2.2.2.2.1
theorem dX12_thing_240 : decode cX12_thing 240 = .ok (.getfield 76, 3) := dgX12_thing_230.2.2.2.2.2.1
theorem dX12_thing_243 : decode cX12_thing 243 = .ok (.bipush 40, 2) := dgX12_thing_230.2.2.2.2.2.2.1
theorem dX12_thing_245 : decode cX12_thing 245 = .ok (.iload 7, 2) := dgX12_thing_230.2.2.2.2.2.2.2.1
theorem dX12_thing_247 : decode cX12_thing 247 = .ok (.imul, 1) := dgX12_thing_230.2.2.2.2.2.2.2.2.1
theorem dX12_thing_248 : decode cX12_thing 248 = .ok (.iload 6, 2) := dgX12_thing_230.2.2.2.2.2.2.2.2.2.1
theorem dX12_thing_250 : decode cX12_thing 250 = .ok (.iadd, 1) := dgX12_thing_230.2.2.2.2.2.2.2.2.2.2.1
theorem dX12_thing_251 : decode cX12_thing 251 = .ok (.iconst (-1), 1) := by decide +kernel
theorem dgX12_thing_252 : (decode cX12_thing 252 = .ok (.iastore, 1)) ∧ (decode cX12_thing 253 = .ok (.iinc 7 1, 3)) ∧ (decode cX12_thing 256 = .ok (.goto (-24), 3)) ∧ (decode cX12_thing 259 = .ok (.aload_n 0, 1)) ∧ (decode cX12_thing 260 = .ok (.dup, 1)) ∧ (decode cX12_thing 261 = .ok (.getfield 146, 3)) ∧ (decode cX12_thing 264 = .ok (.iconst 1, 1)) ∧ (decode cX12_thing 265 = .ok (.iadd, 1)) ∧ (decode cX12_thing 266 = .ok (.putfield 146, 3)) ∧ (decode cX12_thing 269 = .ok (.aload_n 0, 1)) ∧ (decode cX12_thing 270 = .ok (.iconst 0, 1)) ∧ (decode cX12_thing 271 = .ok (.putfield 162, 3)) ∧ True := dkW [(252, .iastore, 1), (253, .iinc 7 1, 3), (256, .goto (-24), 3), (259, .aload_n 0, 1), (260, .dup, 1), (261, .getfield 146, 3), (264, .iconst 1, 1), (265, .iadd, 1), (266, .putfield 146, 3), (269, .aload_n 0, 1), (270, .iconst 0, 1), (271, .putfield 162, 3)] 252 (by decide +kernel)
theorem dX12_thing_252 : decode cX12_thing 252 = .ok (.iastore, 1) := dgX12_thing_252.1
theorem dX12_thing_253 : decode cX12_thing 253 = .ok (.iinc 7 1, 3) := dgX12_thing_252.2.1
theorem dX12_thing_256 : decode cX12_thing 256 = .ok (.goto (-24), 3) := dgX12_thing_252.2.2.1
theorem dX12_thing_259 : decode cX12_thing 259 = .ok (.aload_n 0, 1) := dgX12_thing_252.2.2.2.1
theorem dX12_thing_260 : decode cX12_thing 260 = .ok (.dup, 1) := dgX12_thing_252.2.2.2.2.1
theorem dX12_thing_261 : decode cX12_thing 261 = .ok (.getfield 146, 3) := dgX12_thing_252.2.2.2.2.2.1
theorem dX12_thing_264 : decode cX12_thing 264 = .ok (.iconst 1, 1) := dgX12_thing_252.2.2.2.2.2.2.1
theorem dX12_thing_265 : decode cX12_thing 265 = .ok (.iadd, 1) := dgX12_thing_252.2.2.2.2.2.2.2.1
theorem dX12_thing_266 : decode cX12_thing 266 = .ok (.putfield 146, 3) := dgX12_thing_252.2.2.2.2.2.2.2.2.1
theorem dX12_thing_269 : decode cX12_thing 269 = .ok (.aload_n 0, 1) := dgX12_thing_252.2.2.2.2.2.2.2.2.2.1
theorem dX12_thing_270 : decode cX12_thing 270 = .ok (.iconst 0, 1) := dgX12_thing_252.2.2.2.2.2.2.2.2.2.2.1
theorem dX12_thing_271 : decode cX12_thing 271 = .ok (.putfield 162, 3) := dgX12_thing_252.2.2.2.2.2.2.2.2.2.2.2.1
theorem dgX12_thing_274 : (decode cX12_thing 274 = .ok (.iload 6, 2)) ∧ (decode cX12_thing 276 = .ok (.ireturn, 1)) ∧ True := dkW [(274, .iload 6, 2), (276, .ireturn, 1)] 274 (by decide +kernel)
theorem dX12_thing_274 : decode cX12_thing 274 = .ok (.iload 6, 2) := dgX12_thing_274.1
theorem dX12_thing_276 : decode cX12_thing 276 = .ok (.ireturn, 1) := dgX12_thing_274.2.1
abbrev rmX12_thing : Room := { frames := 1, cells := 0, slots := 0, locals := 22 }
noncomputable def fX12_thing_b44 (N : Nat)  (t : Nat) (h : Hs)  : Option (Int32 × Hs) :=
  some ((-1), h)
set_option maxHeartbeats 4000000 in
set_option maxRecDepth 20000 in
theorem wX12_thing_b44 {p : Program} {l : Launch} {e : Env} {s : State} {m : MethodId} {args : Array Value} {below : List Frame} {meth : Method} {c : Code} {G : Gl} {N : Nat} {h : Hs} {r : Int32 × Hs}  {t : Nat}  (C : Cx p s m args meth c cX12_thing RX12 8 G) (hret : meth.sig.returnType = (some .int))  (hf : fX12_thing_b44 N  t h  = some r) : V p l e rmX12_thing s m args below meth c G 8 (MQ below (QcG G (some (.inl r.1)) r.2) args s rmX12_thing.cells rmX12_thing.slots (AG G)) h 0 0 44 [some (.inr (some t)), none, none, none, none, none, none, none] [] := by
  unfold fX12_thing_b44 at hf
  refine r_iconst (v := -1) C dX12_thing_44 (by decide) ?_
  exact r_iretF C dX12_thing_45 hret hf (by decide) (by decide)
noncomputable def fX12_thing_b81 (N : Nat)  (t : Nat) (h : Hs)  : Option (Int32 × Hs) :=
  some ((-1), h)
set_option maxHeartbeats 4000000 in
set_option maxRecDepth 20000 in
theorem wX12_thing_b81 {p : Program} {l : Launch} {e : Env} {s : State} {m : MethodId} {args : Array Value} {below : List Frame} {meth : Method} {c : Code} {G : Gl} {N : Nat} {h : Hs} {r : Int32 × Hs}  {t : Nat}  (C : Cx p s m args meth c cX12_thing RX12 8 G) (hret : meth.sig.returnType = (some .int))  (hf : fX12_thing_b81 N  t h  = some r) : V p l e rmX12_thing s m args below meth c G 8 (MQ below (QcG G (some (.inl r.1)) r.2) args s rmX12_thing.cells rmX12_thing.slots (AG G)) h 0 0 81 [some (.inr (some t)), none, none, none, none, none, none, none] [] := by
  unfold fX12_thing_b81 at hf
  refine r_iconst (v := -1) C dX12_thing_81 (by decide) ?_
  exact r_iretF C dX12_thing_82 hret hf (by decide) (by decide)
noncomputable def fX12_thing_b232_body (N : Nat)  (g232 : Hs → Int32 → Int32 → Option (Int32 × Hs)) (t : Nat) (h : Hs) (x6 : Int32) (x7 : Int32) : Option (Int32 × Hs) :=
  if 10 ≤ x7 then (
  (oI 12 1 h (some t)).bind fun v1 =>
  (qI 12 1 h (some t) (v1 + 1)).bind fun h2 =>
  (qZ 12 43 h2 (some t) 0).bind fun h3 =>
  some (x6, h3))
  else (oR 12 28 h (some t)).bind fun o4 =>
  (sA h o4 ((40 * x7) + x6) (-1)).bind fun h5 =>
  (some (x7 + 1)).bind fun y6 =>
  g232 h5 x6 y6
noncomputable def fX12_thing_b232 (N : Nat)  (t : Nat) (n : Nat) : Hs → Int32 → Int32 → Option (Int32 × Hs) := lp (fun _ _ _ => none) (fun g h x6 x7 => fX12_thing_b232_body N  g t h x6 x7) n
set_option maxHeartbeats 4000000 in
set_option maxRecDepth 20000 in
theorem wX12_thing_b232_body {p : Program} {l : Launch} {e : Env} {s : State} {m : MethodId} {args : Array Value} {below : List Frame} {meth : Method} {c : Code} {G : Gl} {N : Nat} {h : Hs} {r : Int32 × Hs}  {g232 : Hs → Int32 → Int32 → Option (Int32 × Hs)} {t : Nat} {x6 : Int32} {x7 : Int32} (C : Cx p s m args meth c cX12_thing RX12 8 G) (hret : meth.sig.returnType = (some .int))  (hg232 : ∀ (h : Hs) (x6 : Int32) (x7 : Int32), g232 h x6 x7 = some r → V p l e rmX12_thing s m args below meth c G 8 (MQ below (QcG G (some (.inl r.1)) r.2) args s rmX12_thing.cells rmX12_thing.slots (AG G)) h 0 0 232 [some (.inr (some t)), none, none, none, none, none, some (.inl x6), some (.inl x7)] []) (hf : fX12_thing_b232_body N  g232 t h x6 x7 = some r) : V p l e rmX12_thing s m args below meth c G 8 (MQ below (QcG G (some (.inl r.1)) r.2) args s rmX12_thing.cells rmX12_thing.slots (AG G)) h 0 0 232 [some (.inr (some t)), none, none, none, none, none, some (.inl x6), some (.inl x7)] [] := by
  unfold fX12_thing_b232_body at hf
  refine r_iload C dX12_thing_232 rfl ?_
  refine r_bipush (v := 10) C dX12_thing_234 (by decide) ?_
  refine r_icmp_ge (tgt := 259) C dX12_thing_236 (by decide) (fun hc => ?_) (fun hc => ?_)
  · have hf := ifT hf hc
    refine r_aload_n C dX12_thing_259 rfl ?_
    refine r_dup C dX12_thing_260 ?_
    obtain ⟨v1, ev1, hf⟩ := bS hf
    refine r_getI C dX12_thing_261 fl_X12_146 rfl ev1 ?_
    refine r_iconst (v := 1) C dX12_thing_264 (by decide) ?_
    refine r_iadd C dX12_thing_265 ?_
    obtain ⟨h2, eh2, hf⟩ := bS hf
    refine r_putI C dX12_thing_266 fl_X12_146 (Or.inl fn_12_1) rfl eh2 ?_
    refine r_aload_n C dX12_thing_269 rfl ?_
    refine r_iconst (v := 0) C dX12_thing_270 (by decide) ?_
    obtain ⟨h3, eh3, hf⟩ := bS hf
    refine r_putZ C dX12_thing_271 fl_X12_162 (Or.inl fn_12_43) rfl eh3 ?_
    refine r_iload C dX12_thing_274 rfl ?_
    exact r_iretF C dX12_thing_276 hret hf (by decide) (by decide)
  · have hf := ifF hf hc
    refine r_aload_n C dX12_thing_239 rfl ?_
    obtain ⟨o4, eo4, hf⟩ := bS hf
    refine r_getR C dX12_thing_240 fl_X12_76 rfl eo4 ?_
    refine r_bipush (v := 40) C dX12_thing_243 (by decide) ?_
    refine r_iload C dX12_thing_245 rfl ?_
    refine r_imul C dX12_thing_247 ?_
    refine r_iload C dX12_thing_248 rfl ?_
    refine r_iadd C dX12_thing_250 ?_
    refine r_iconst (v := -1) C dX12_thing_251 (by decide) ?_
    obtain ⟨h5, eh5, hf⟩ := bS hf
    refine r_iast C dX12_thing_252 eh5 ?_
    obtain ⟨y6, ey6, hf⟩ := bS hf
    refine r_iincE (v := 1) C dX12_thing_253 rfl (by decide) (by decide) ey6 ?_
    refine r_goto (tgt := 232) C dX12_thing_256 (by decide) ?_
    exact V.sub (hg232 _ _ _ hf) (LW_s rfl (LW_n (LW_n (LW_n (LW_n (LW_n (LW_s rfl (LW_s rfl (LW_e)))))))))
theorem wX12_thing_b232 {p : Program} {l : Launch} {e : Env} {s : State} {m : MethodId} {args : Array Value} {below : List Frame} {meth : Method} {c : Code} {G : Gl} {N : Nat} {r : Int32 × Hs}  {t : Nat} (C : Cx p s m args meth c cX12_thing RX12 8 G) (hret : meth.sig.returnType = (some .int))  : ∀ (n : Nat) (h : Hs) (x6 : Int32) (x7 : Int32), fX12_thing_b232 N  t n h x6 x7 = some r → V p l e rmX12_thing s m args below meth c G 8 (MQ below (QcG G (some (.inl r.1)) r.2) args s rmX12_thing.cells rmX12_thing.slots (AG G)) h 0 0 232 [some (.inr (some t)), none, none, none, none, none, some (.inl x6), some (.inl x7)] [] := by
  intro n
  induction n with
  | zero => intro h x6 x7 hf; exact absurd (show (none : Option (Int32 × Hs)) = some r from hf) (fun q => by cases q)
  | succ n ih => intro h x6 x7 hf; exact wX12_thing_b232_body C hret  ih (show fX12_thing_b232_body N  (fX12_thing_b232 N  t n) t h x6 x7 = some r from hf)
noncomputable def fX12_thing_b146 (N : Nat) (g86 : Hs → Int32 → Int32 → Int32 → Int32 → Int32 → Int32 → Option (Int32 × Hs)) (t : Nat) (h : Hs) (x1 : Int32) (x2 : Int32) (x3 : Int32) (x4 : Int32) (x5 : Int32) (x6 : Int32) : Option (Int32 × Hs) :=
  (some (x6 + 1)).bind fun y1 =>
  g86 h x1 x2 x3 x4 x5 y1
set_option maxHeartbeats 4000000 in
set_option maxRecDepth 20000 in
theorem wX12_thing_b146 {p : Program} {l : Launch} {e : Env} {s : State} {m : MethodId} {args : Array Value} {below : List Frame} {meth : Method} {c : Code} {G : Gl} {N : Nat} {h : Hs} {r : Int32 × Hs} {g86 : Hs → Int32 → Int32 → Int32 → Int32 → Int32 → Int32 → Option (Int32 × Hs)} {t : Nat} {x1 : Int32} {x2 : Int32} {x3 : Int32} {x4 : Int32} {x5 : Int32} {x6 : Int32} (C : Cx p s m args meth c cX12_thing RX12 8 G) (hret : meth.sig.returnType = (some .int)) (hg86 : ∀ (h : Hs) (x1 : Int32) (x2 : Int32) (x3 : Int32) (x4 : Int32) (x5 : Int32) (x6 : Int32), g86 h x1 x2 x3 x4 x5 x6 = some r → V p l e rmX12_thing s m args below meth c G 8 (MQ below (QcG G (some (.inl r.1)) r.2) args s rmX12_thing.cells rmX12_thing.slots (AG G)) h 0 0 86 [some (.inr (some t)), some (.inl x1), some (.inl x2), some (.inl x3), some (.inl x4), some (.inl x5), some (.inl x6), none] []) (hf : fX12_thing_b146 N g86 t h x1 x2 x3 x4 x5 x6 = some r) : V p l e rmX12_thing s m args below meth c G 8 (MQ below (QcG G (some (.inl r.1)) r.2) args s rmX12_thing.cells rmX12_thing.slots (AG G)) h 0 0 146 [some (.inr (some t)), some (.inl x1), some (.inl x2), some (.inl x3), some (.inl x4), some (.inl x5), some (.inl x6), none] [] := by
  unfold fX12_thing_b146 at hf
  obtain ⟨y1, ey1, hf⟩ := bS hf
  refine r_iincE (v := 1) C dX12_thing_146 rfl (by decide) (by decide) ey1 ?_
  refine r_goto (tgt := 86) C dX12_thing_149 (by decide) ?_
  exact V.sub (hg86 _ _ _ _ _ _ _ hf) (LW_s rfl (LW_s rfl (LW_s rfl (LW_s rfl (LW_s rfl (LW_s rfl (LW_s rfl (LW_n (LW_e)))))))))
noncomputable def fX12_thing_b86_body (N : Nat)  (g86 : Hs → Int32 → Int32 → Int32 → Int32 → Int32 → Int32 → Option (Int32 × Hs)) (t : Nat) (h : Hs) (x1 : Int32) (x2 : Int32) (x3 : Int32) (x4 : Int32) (x5 : Int32) (x6 : Int32) : Option (Int32 × Hs) :=
  (oI 12 1 h (some t)).bind fun v1 =>
  if v1 ≤ x6 then (
  (oI 12 1 h (some t)).bind fun v2 =>
  if v2 = 40 then (
  some ((-3), h))
  else (oI 12 1 h (some t)).bind fun v3 =>
  (oR 12 2 h (some t)).bind fun o4 =>
  (sA h o4 v3 (x1 / 100)).bind fun h5 =>
  (oR 12 3 h5 (some t)).bind fun o6 =>
  (sA h5 o6 v3 x2).bind fun h7 =>
  (oR 12 4 h7 (some t)).bind fun o8 =>
  (sA h7 o8 v3 x4).bind fun h9 =>
  (oR 12 5 h9 (some t)).bind fun o10 =>
  (sA h9 o10 v3 x5).bind fun h11 =>
  (oR 12 6 h11 (some t)).bind fun o12 =>
  (sA h11 o12 v3 (x3 / 100)).bind fun h13 =>
  (oR 12 7 h13 (some t)).bind fun o14 =>
  (sA h13 o14 v3 (x3 - x3 / 100 * 100)).bind fun h15 =>
  fX12_thing_b232 N t N h15 v3 0)
  else (oR 12 2 h (some t)).bind fun o16 =>
  (lA 20 h o16 x6).bind fun v17 =>
  if v17 = (x1 / 100) then (
  (oR 12 5 h (some t)).bind fun o18 =>
  (lA 20 h o18 x6).bind fun v19 =>
  (oR 12 3 h (some t)).bind fun o20 =>
  (lA 20 h o20 x6).bind fun v21 =>
  if (v19 + v21) ≤ x5 then (
  fX12_thing_b146 N g86 t h x1 x2 x3 x4 x5 x6)
  else (oR 12 5 h (some t)).bind fun o22 =>
  (lA 20 h o22 x6).bind fun v23 =>
  if (x5 + x2) ≤ v23 then (
  fX12_thing_b146 N g86 t h x1 x2 x3 x4 x5 x6)
  else some ((-2), h))
  else fX12_thing_b146 N g86 t h x1 x2 x3 x4 x5 x6
noncomputable def fX12_thing_b86 (N : Nat)  (t : Nat) (n : Nat) : Hs → Int32 → Int32 → Int32 → Int32 → Int32 → Int32 → Option (Int32 × Hs) := lp (fun _ _ _ _ _ _ _ => none) (fun g h x1 x2 x3 x4 x5 x6 => fX12_thing_b86_body N  g t h x1 x2 x3 x4 x5 x6) n
set_option maxHeartbeats 4000000 in
set_option maxRecDepth 20000 in
theorem wX12_thing_b86_body {p : Program} {l : Launch} {e : Env} {s : State} {m : MethodId} {args : Array Value} {below : List Frame} {meth : Method} {c : Code} {G : Gl} {N : Nat} {h : Hs} {r : Int32 × Hs}  {g86 : Hs → Int32 → Int32 → Int32 → Int32 → Int32 → Int32 → Option (Int32 × Hs)} {t : Nat} {x1 : Int32} {x2 : Int32} {x3 : Int32} {x4 : Int32} {x5 : Int32} {x6 : Int32} (C : Cx p s m args meth c cX12_thing RX12 8 G) (hret : meth.sig.returnType = (some .int))  (hg86 : ∀ (h : Hs) (x1 : Int32) (x2 : Int32) (x3 : Int32) (x4 : Int32) (x5 : Int32) (x6 : Int32), g86 h x1 x2 x3 x4 x5 x6 = some r → V p l e rmX12_thing s m args below meth c G 8 (MQ below (QcG G (some (.inl r.1)) r.2) args s rmX12_thing.cells rmX12_thing.slots (AG G)) h 0 0 86 [some (.inr (some t)), some (.inl x1), some (.inl x2), some (.inl x3), some (.inl x4), some (.inl x5), some (.inl x6), none] []) (hf : fX12_thing_b86_body N  g86 t h x1 x2 x3 x4 x5 x6 = some r) : V p l e rmX12_thing s m args below meth c G 8 (MQ below (QcG G (some (.inl r.1)) r.2) args s rmX12_thing.cells rmX12_thing.slots (AG G)) h 0 0 86 [some (.inr (some t)), some (.inl x1), some (.inl x2), some (.inl x3), some (.inl x4), some (.inl x5), some (.inl x6), none] [] := by
  unfold fX12_thing_b86_body at hf
  refine r_iload C dX12_thing_86 rfl ?_
  refine r_aload_n C dX12_thing_88 rfl ?_
  obtain ⟨v1, ev1, hf⟩ := bS hf
  refine r_getI C dX12_thing_89 fl_X12_146 rfl ev1 ?_
  refine r_icmp_ge (tgt := 152) C dX12_thing_92 (by decide) (fun hc => ?_) (fun hc => ?_)
  · have hf := ifT hf hc
    refine r_aload_n C dX12_thing_152 rfl ?_
    obtain ⟨v2, ev2, hf⟩ := bS hf
    refine r_getI C dX12_thing_153 fl_X12_146 rfl ev2 ?_
    refine r_bipush (v := 40) C dX12_thing_156 (by decide) ?_
    refine r_icmp_ne (tgt := 164) C dX12_thing_158 (by decide) (fun hc => ?_) (fun hc => ?_)
    · have hf := ifF hf hc
      refine r_aload_n C dX12_thing_164 rfl ?_
      obtain ⟨v3, ev3, hf⟩ := bS hf
      refine r_getI C dX12_thing_165 fl_X12_146 rfl ev3 ?_
      refine r_istore C dX12_thing_168 (by decide) ?_
      refine r_aload_n C dX12_thing_170 rfl ?_
      obtain ⟨o4, eo4, hf⟩ := bS hf
      refine r_getR C dX12_thing_171 fl_X12_7 rfl eo4 ?_
      refine r_iload C dX12_thing_174 rfl ?_
      refine r_iload_n C dX12_thing_176 rfl ?_
      refine r_bipush (v := 100) C dX12_thing_177 (by decide) ?_
      refine r_idivK C dX12_thing_179 (by decide) ?_
      obtain ⟨h5, eh5, hf⟩ := bS hf
      refine r_iast C dX12_thing_180 eh5 ?_
      refine r_aload_n C dX12_thing_181 rfl ?_
      obtain ⟨o6, eo6, hf⟩ := bS hf
      refine r_getR C dX12_thing_182 fl_X12_13 rfl eo6 ?_
      refine r_iload C dX12_thing_185 rfl ?_
      refine r_iload_n C dX12_thing_187 rfl ?_
      obtain ⟨h7, eh7, hf⟩ := bS hf
      refine r_iast C dX12_thing_188 eh7 ?_
      refine r_aload_n C dX12_thing_189 rfl ?_
      obtain ⟨o8, eo8, hf⟩ := bS hf
      refine r_getR C dX12_thing_190 fl_X12_16 rfl eo8 ?_
      refine r_iload C dX12_thing_193 rfl ?_
      refine r_iload C dX12_thing_195 rfl ?_
      obtain ⟨h9, eh9, hf⟩ := bS hf
      refine r_iast C dX12_thing_197 eh9 ?_
      refine r_aload_n C dX12_thing_198 rfl ?_
      obtain ⟨o10, eo10, hf⟩ := bS hf
      refine r_getR C dX12_thing_199 fl_X12_19 rfl eo10 ?_
      refine r_iload C dX12_thing_202 rfl ?_
      refine r_iload C dX12_thing_204 rfl ?_
      obtain ⟨h11, eh11, hf⟩ := bS hf
      refine r_iast C dX12_thing_206 eh11 ?_
      refine r_aload_n C dX12_thing_207 rfl ?_
      obtain ⟨o12, eo12, hf⟩ := bS hf
      refine r_getR C dX12_thing_208 fl_X12_22 rfl eo12 ?_
      refine r_iload C dX12_thing_211 rfl ?_
      refine r_iload_n C dX12_thing_213 rfl ?_
      refine r_bipush (v := 100) C dX12_thing_214 (by decide) ?_
      refine r_idivK C dX12_thing_216 (by decide) ?_
      obtain ⟨h13, eh13, hf⟩ := bS hf
      refine r_iast C dX12_thing_217 eh13 ?_
      refine r_aload_n C dX12_thing_218 rfl ?_
      obtain ⟨o14, eo14, hf⟩ := bS hf
      refine r_getR C dX12_thing_219 fl_X12_25 rfl eo14 ?_
      refine r_iload C dX12_thing_222 rfl ?_
      refine r_iload_n C dX12_thing_224 rfl ?_
      refine r_bipush (v := 100) C dX12_thing_225 (by decide) ?_
      refine r_iremK C dX12_thing_227 (by decide) ?_
      obtain ⟨h15, eh15, hf⟩ := bS hf
      refine r_iast C dX12_thing_228 eh15 ?_
      refine r_iconst (v := 0) C dX12_thing_229 (by decide) ?_
      refine r_istore C dX12_thing_230 (by decide) ?_
      exact V.sub (wX12_thing_b232 C hret N _ _ _ hf) (LW_s rfl (LW_n (LW_n (LW_n (LW_n (LW_n (LW_s rfl (LW_s rfl (LW_e)))))))))
    · have hf := ifT hf hc
      refine r_bipush (v := -3) C dX12_thing_161 (by decide) ?_
      exact r_iretF C dX12_thing_163 hret hf (by decide) (by decide)
  · have hf := ifF hf hc
    refine r_aload_n C dX12_thing_95 rfl ?_
    obtain ⟨o16, eo16, hf⟩ := bS hf
    refine r_getR C dX12_thing_96 fl_X12_7 rfl eo16 ?_
    refine r_iload C dX12_thing_99 rfl ?_
    obtain ⟨v17, ev17, hf⟩ := bS hf
    refine r_iald C dX12_thing_101 ev17 ?_
    refine r_iload_n C dX12_thing_102 rfl ?_
    refine r_bipush (v := 100) C dX12_thing_103 (by decide) ?_
    refine r_idivK C dX12_thing_105 (by decide) ?_
    refine r_icmp_ne (tgt := 146) C dX12_thing_106 (by decide) (fun hc => ?_) (fun hc => ?_)
    · have hf := ifF hf hc
      exact V.sub (wX12_thing_b146 C hret hg86 hf) (LW_s rfl (LW_s rfl (LW_s rfl (LW_s rfl (LW_s rfl (LW_s rfl (LW_s rfl (LW_n (LW_e)))))))))
    · have hf := ifT hf hc
      refine r_iload C dX12_thing_109 rfl ?_
      refine r_aload_n C dX12_thing_111 rfl ?_
      obtain ⟨o18, eo18, hf⟩ := bS hf
      refine r_getR C dX12_thing_112 fl_X12_19 rfl eo18 ?_
      refine r_iload C dX12_thing_115 rfl ?_
      obtain ⟨v19, ev19, hf⟩ := bS hf
      refine r_iald C dX12_thing_117 ev19 ?_
      refine r_aload_n C dX12_thing_118 rfl ?_
      obtain ⟨o20, eo20, hf⟩ := bS hf
      refine r_getR C dX12_thing_119 fl_X12_13 rfl eo20 ?_
      refine r_iload C dX12_thing_122 rfl ?_
      obtain ⟨v21, ev21, hf⟩ := bS hf
      refine r_iald C dX12_thing_124 ev21 ?_
      refine r_iadd C dX12_thing_125 ?_
      refine r_icmp_ge (tgt := 146) C dX12_thing_126 (by decide) (fun hc => ?_) (fun hc => ?_)
      · have hf := ifT hf hc
        exact V.sub (wX12_thing_b146 C hret hg86 hf) (LW_s rfl (LW_s rfl (LW_s rfl (LW_s rfl (LW_s rfl (LW_s rfl (LW_s rfl (LW_n (LW_e)))))))))
      · have hf := ifF hf hc
        refine r_aload_n C dX12_thing_129 rfl ?_
        obtain ⟨o22, eo22, hf⟩ := bS hf
        refine r_getR C dX12_thing_130 fl_X12_19 rfl eo22 ?_
        refine r_iload C dX12_thing_133 rfl ?_
        obtain ⟨v23, ev23, hf⟩ := bS hf
        refine r_iald C dX12_thing_135 ev23 ?_
        refine r_iload C dX12_thing_136 rfl ?_
        refine r_iload_n C dX12_thing_138 rfl ?_
        refine r_iadd C dX12_thing_139 ?_
        refine r_icmp_ge (tgt := 146) C dX12_thing_140 (by decide) (fun hc => ?_) (fun hc => ?_)
        · have hf := ifT hf hc
          exact V.sub (wX12_thing_b146 C hret hg86 hf) (LW_s rfl (LW_s rfl (LW_s rfl (LW_s rfl (LW_s rfl (LW_s rfl (LW_s rfl (LW_n (LW_e)))))))))
        · have hf := ifF hf hc
          refine r_bipush (v := -2) C dX12_thing_143 (by decide) ?_
          exact r_iretF C dX12_thing_145 hret hf (by decide) (by decide)
theorem wX12_thing_b86 {p : Program} {l : Launch} {e : Env} {s : State} {m : MethodId} {args : Array Value} {below : List Frame} {meth : Method} {c : Code} {G : Gl} {N : Nat} {r : Int32 × Hs}  {t : Nat} (C : Cx p s m args meth c cX12_thing RX12 8 G) (hret : meth.sig.returnType = (some .int))  : ∀ (n : Nat) (h : Hs) (x1 : Int32) (x2 : Int32) (x3 : Int32) (x4 : Int32) (x5 : Int32) (x6 : Int32), fX12_thing_b86 N  t n h x1 x2 x3 x4 x5 x6 = some r → V p l e rmX12_thing s m args below meth c G 8 (MQ below (QcG G (some (.inl r.1)) r.2) args s rmX12_thing.cells rmX12_thing.slots (AG G)) h 0 0 86 [some (.inr (some t)), some (.inl x1), some (.inl x2), some (.inl x3), some (.inl x4), some (.inl x5), some (.inl x6), none] [] := by
  intro n
  induction n with
  | zero => intro h x1 x2 x3 x4 x5 x6 hf; exact absurd (show (none : Option (Int32 × Hs)) = some r from hf) (fun q => by cases q)
  | succ n ih => intro h x1 x2 x3 x4 x5 x6 hf; exact wX12_thing_b86_body C hret  ih (show fX12_thing_b86_body N  (fX12_thing_b86 N  t n) t h x1 x2 x3 x4 x5 x6 = some r from hf)
noncomputable def fX12_thing (N : Nat) (h : Hs) (t : Nat) (p1 : Int32) (p2 : Int32) (p3 : Int32) (p4 : Int32) : Option (Int32 × Hs) :=
  (fX12_in N h p1 0 1599).bind fun r1 =>
  if r1.1 = 0 then (
  fX12_thing_b44 N t r1.2)
  else (fX12_in N r1.2 p2 1 60).bind fun r2 =>
  if r2.1 = 0 then (
  fX12_thing_b44 N t r2.2)
  else (fX12_in N r2.2 p3 0 9999).bind fun r3 =>
  if r3.1 = 0 then (
  fX12_thing_b44 N t r3.2)
  else (fX12_in N r3.2 p4 0 999).bind fun r4 =>
  if r4.1 = 0 then (
  fX12_thing_b44 N t r4.2)
  else (some (p1 - p1 / 100 * 100)).bind fun y5 =>
  if y5 < (p3 / 100) then (
  fX12_thing_b81 N t r4.2)
  else if (p3 - p3 / 100 * 100) < y5 then (
  fX12_thing_b81 N t r4.2)
  else if ((p3 - p3 / 100 * 100) + p2) ≤ 100 then (
  fX12_thing_b86 N t N r4.2 p1 p2 p3 p4 y5 0)
  else fX12_thing_b81 N t r4.2
set_option maxHeartbeats 4000000 in
set_option maxRecDepth 20000 in
theorem kX12_thing (l : Launch) (G : Gl) {N : Nat} {h : Hs} {t : Nat} {p1 : Int32} {p2 : Int32} {p3 : Int32} {p4 : Int32} {r : Int32 × Hs} (hf : fX12_thing N h t p1 p2 p3 p4 = some r) : CT l G yX12_thing cX12_thing 8 (some .int) rmX12_thing [.inr (some t), .inl p1, .inl p2, .inl p3, .inl p4] h (some (.inl r.1)) r.2 := by
  refine mk_CT (by decide) (Nat.le_of_ble_eq_true rfl) ?_
  intro p e s m args below meth c C hret hin
  unfold fX12_thing at hf
  refine r_iload_n C dX12_thing_0 rfl ?_
  refine r_iconst (v := 0) C dX12_thing_1 (by decide) ?_
  refine r_sipush (v := 1599) C dX12_thing_2 (by decide) ?_
  obtain ⟨r1, er1, hf⟩ := bS hf
  refine r_invS1 (As := [.inl p1, .inl 0, .inl 1599]) C dX12_thing_5 mcX12_in wd_1185 wd_1186 ⟨by decide, by decide⟩ ⟨by decide, by decide⟩ rfl (Nat.le_of_ble_eq_true rfl) (kX12_in l G er1) ?_
  refine r_if_eq (tgt := 44) C dX12_thing_8 (by decide) (fun hc => ?_) (fun hc => ?_)
  · have hf := ifT hf hc
    exact V.sub (wX12_thing_b44 C hret hf) (LW_s rfl (LW_n (LW_n (LW_n (LW_n (LW_n (LW_n (LW_n (LW_e)))))))))
  · have hf := ifF hf hc
    refine r_iload_n C dX12_thing_11 rfl ?_
    refine r_iconst (v := 1) C dX12_thing_12 (by decide) ?_
    refine r_bipush (v := 60) C dX12_thing_13 (by decide) ?_
    obtain ⟨r2, er2, hf⟩ := bS hf
    refine r_invS1 (As := [.inl p2, .inl 1, .inl 60]) C dX12_thing_15 mcX12_in wd_1185 wd_1186 ⟨by decide, by decide⟩ ⟨by decide, by decide⟩ rfl (Nat.le_of_ble_eq_true rfl) (kX12_in l G er2) ?_
    refine r_if_eq (tgt := 44) C dX12_thing_18 (by decide) (fun hc => ?_) (fun hc => ?_)
    · have hf := ifT hf hc
      exact V.sub (wX12_thing_b44 C hret hf) (LW_s rfl (LW_n (LW_n (LW_n (LW_n (LW_n (LW_n (LW_n (LW_e)))))))))
    · have hf := ifF hf hc
      refine r_iload_n C dX12_thing_21 rfl ?_
      refine r_iconst (v := 0) C dX12_thing_22 (by decide) ?_
      refine r_sipush (v := 9999) C dX12_thing_23 (by decide) ?_
      obtain ⟨r3, er3, hf⟩ := bS hf
      refine r_invS1 (As := [.inl p3, .inl 0, .inl 9999]) C dX12_thing_26 mcX12_in wd_1185 wd_1186 ⟨by decide, by decide⟩ ⟨by decide, by decide⟩ rfl (Nat.le_of_ble_eq_true rfl) (kX12_in l G er3) ?_
      refine r_if_eq (tgt := 44) C dX12_thing_29 (by decide) (fun hc => ?_) (fun hc => ?_)
      · have hf := ifT hf hc
        exact V.sub (wX12_thing_b44 C hret hf) (LW_s rfl (LW_n (LW_n (LW_n (LW_n (LW_n (LW_n (LW_n (LW_e)))))))))
      · have hf := ifF hf hc
        refine r_iload C dX12_thing_32 rfl ?_
        refine r_iconst (v := 0) C dX12_thing_34 (by decide) ?_
        refine r_sipush (v := 999) C dX12_thing_35 (by decide) ?_
        obtain ⟨r4, er4, hf⟩ := bS hf
        refine r_invS1 (As := [.inl p4, .inl 0, .inl 999]) C dX12_thing_38 mcX12_in wd_1185 wd_1186 ⟨by decide, by decide⟩ ⟨by decide, by decide⟩ rfl (Nat.le_of_ble_eq_true rfl) (kX12_in l G er4) ?_
        refine r_if_ne (tgt := 46) C dX12_thing_41 (by decide) (fun hc => ?_) (fun hc => ?_)
        · have hf := ifF hf hc
          refine r_iload_n C dX12_thing_46 rfl ?_
          refine r_bipush (v := 100) C dX12_thing_47 (by decide) ?_
          refine r_iremK C dX12_thing_49 (by decide) ?_
          obtain ⟨y5, ey5, hf⟩ := bS hf
          refine r_istoreE C dX12_thing_50 (by decide) ey5 ?_
          refine r_iload_n C dX12_thing_52 rfl ?_
          refine r_bipush (v := 100) C dX12_thing_53 (by decide) ?_
          refine r_idivK C dX12_thing_55 (by decide) ?_
          refine r_iload C dX12_thing_56 rfl ?_
          refine r_icmp_gt (tgt := 81) C dX12_thing_58 (by decide) (fun hc => ?_) (fun hc => ?_)
          · have hf := ifT hf hc
            exact V.sub (wX12_thing_b81 C hret hf) (LW_s rfl (LW_n (LW_n (LW_n (LW_n (LW_n (LW_n (LW_n (LW_e)))))))))
          · have hf := ifF hf hc
            refine r_iload C dX12_thing_61 rfl ?_
            refine r_iload_n C dX12_thing_63 rfl ?_
            refine r_bipush (v := 100) C dX12_thing_64 (by decide) ?_
            refine r_iremK C dX12_thing_66 (by decide) ?_
            refine r_icmp_gt (tgt := 81) C dX12_thing_67 (by decide) (fun hc => ?_) (fun hc => ?_)
            · have hf := ifT hf hc
              exact V.sub (wX12_thing_b81 C hret hf) (LW_s rfl (LW_n (LW_n (LW_n (LW_n (LW_n (LW_n (LW_n (LW_e)))))))))
            · have hf := ifF hf hc
              refine r_iload_n C dX12_thing_70 rfl ?_
              refine r_bipush (v := 100) C dX12_thing_71 (by decide) ?_
              refine r_iremK C dX12_thing_73 (by decide) ?_
              refine r_iload_n C dX12_thing_74 rfl ?_
              refine r_iadd C dX12_thing_75 ?_
              refine r_bipush (v := 100) C dX12_thing_76 (by decide) ?_
              refine r_icmp_le (tgt := 83) C dX12_thing_78 (by decide) (fun hc => ?_) (fun hc => ?_)
              · have hf := ifT hf hc
                refine r_iconst (v := 0) C dX12_thing_83 (by decide) ?_
                refine r_istore C dX12_thing_84 (by decide) ?_
                exact V.sub (wX12_thing_b86 C hret N _ _ _ _ _ _ _ hf) (LW_s rfl (LW_s rfl (LW_s rfl (LW_s rfl (LW_s rfl (LW_s rfl (LW_s rfl (LW_n (LW_e)))))))))
              · have hf := ifF hf hc
                exact V.sub (wX12_thing_b81 C hret hf) (LW_s rfl (LW_n (LW_n (LW_n (LW_n (LW_n (LW_n (LW_n (LW_e)))))))))
        · have hf := ifT hf hc
          exact V.sub (wX12_thing_b44 C hret hf) (LW_s rfl (LW_n (LW_n (LW_n (LW_n (LW_n (LW_n (LW_n (LW_e)))))))))

theorem dgX12_tiedTo_0 : (decode cX12_tiedTo 0 = .ok (.iconst 0, 1)) ∧ (decode cX12_tiedTo 1 = .ok (.istore_n 2, 1)) ∧ (decode cX12_tiedTo 2 = .ok (.iload_n 2, 1)) ∧ (decode cX12_tiedTo 3 = .ok (.aload_n 0, 1)) ∧ (decode cX12_tiedTo 4 = .ok (.getfield 153, 3)) ∧ (decode cX12_tiedTo 7 = .ok (.if_icmp .ge 30, 3)) ∧ (decode cX12_tiedTo 10 = .ok (.aload_n 0, 1)) ∧ (decode cX12_tiedTo 11 = .ok (.getfield 34, 3)) ∧ (decode cX12_tiedTo 14 = .ok (.iload_n 2, 1)) ∧ (decode cX12_tiedTo 15 = .ok (.iaload, 1)) ∧ (decode cX12_tiedTo 16 = .ok (.iload_n 1, 1)) ∧ (decode cX12_tiedTo 17 = .ok (.if_icmp .ne 14, 3)) ∧ True := dkW [(0, .iconst 0, 1), (1, .istore_n 2, 1), (2, .iload_n 2, 1), (3, .aload_n 0, 1), (4, .getfield 153, 3), (7, .if_icmp .ge 30, 3), (10, .aload_n 0, 1), (11, .getfield 34, 3), (14, .iload_n 2, 1), (15, .iaload, 1), (16, .iload_n 1, 1), (17, .if_icmp .ne 14, 3)] 0 (by decide +kernel)
theorem dX12_tiedTo_0 : decode cX12_tiedTo 0 = .ok (.iconst 0, 1) := dgX12_tiedTo_0.1
theorem dX12_tiedTo_1 : decode cX12_tiedTo 1 = .ok (.istore_n 2, 1) := dgX12_tiedTo_0.2.1
theorem dX12_tiedTo_2 : decode cX12_tiedTo 2 = .ok (.iload_n 2, 1) := dgX12_tiedTo_0.2.2.1
theorem dX12_tiedTo_3 : decode cX12_tiedTo 3 = .ok (.aload_n 0, 1) := dgX12_tiedTo_0.2.2.2.1
theorem dX12_tiedTo_4 : decode cX12_tiedTo 4 = .ok (.getfield 153, 3) := dgX12_tiedTo_0.2.2.2.2.1
theorem dX12_tiedTo_7 : decode cX12_tiedTo 7 = .ok (.if_icmp .ge 30, 3) := dgX12_tiedTo_0.2.2.2.2.2.1
theorem dX12_tiedTo_10 : decode cX12_tiedTo 10 = .ok (.aload_n 0, 1) := dgX12_tiedTo_0.2.2.2.2.2.2.1
theorem dX12_tiedTo_11 : decode cX12_tiedTo 11 = .ok (.getfield 34, 3) := dgX12_tiedTo_0.2.2.2.2.2.2.2.1
theorem dX12_tiedTo_14 : decode cX12_tiedTo 14 = .ok (.iload_n 2, 1) := dgX12_tiedTo_0.2.2.2.2.2.2.2.2.1
theorem dX12_tiedTo_15 : decode cX12_tiedTo 15 = .ok (.iaload, 1) := dgX12_tiedTo_0.2.2.2.2.2.2.2.2.2.1
theorem dX12_tiedTo_16 : decode cX12_tiedTo 16 = .ok (.iload_n 1, 1) := dgX12_tiedTo_0.2.2.2.2.2.2.2.2.2.2.1
theorem dX12_tiedTo_17 : decode cX12_tiedTo 17 = .ok (.if_icmp .ne 14, 3) := dgX12_tiedTo_0.2.2.2.2.2.2.2.2.2.2.2.1
theorem dgX12_tiedTo_20 : (decode cX12_tiedTo 20 = .ok (.aload_n 0, 1)) ∧ (decode cX12_tiedTo 21 = .ok (.getfield 46, 3)) ∧ (decode cX12_tiedTo 24 = .ok (.iload_n 2, 1)) ∧ (decode cX12_tiedTo 25 = .ok (.iaload, 1)) ∧ (decode cX12_tiedTo 26 = .ok (.ifCond .lt 5, 3)) ∧ (decode cX12_tiedTo 29 = .ok (.iload_n 2, 1)) ∧ (decode cX12_tiedTo 30 = .ok (.ireturn, 1)) ∧ (decode cX12_tiedTo 31 = .ok (.iinc 2 1, 3)) ∧ (decode cX12_tiedTo 34 = .ok (.goto (-32), 3)) ∧ True := dkW [(20, .aload_n 0, 1), (21, .getfield 46, 3), (24, .iload_n 2, 1), (25, .iaload, 1), (26, .ifCond .lt 5, 3), (29, .iload_n 2, 1), (30, .ireturn, 1), (31, .iinc 2 1, 3), (34, .goto (-32), 3)] 20 (by decide +kernel)
theorem dX12_tiedTo_20 : decode cX12_tiedTo 20 = .ok (.aload_n 0, 1) := dgX12_tiedTo_20.1
theorem dX12_tiedTo_21 : decode cX12_tiedTo 21 = .ok (.getfield 46, 3) := dgX12_tiedTo_20.2.1
theorem dX12_tiedTo_24 : decode cX12_tiedTo 24 = .ok (.iload_n 2, 1) := dgX12_tiedTo_20.2.2.1
theorem dX12_tiedTo_25 : decode cX12_tiedTo 25 = .ok (.iaload, 1) := dgX12_tiedTo_20.2.2.2.1
theorem dX12_tiedTo_26 : decode cX12_tiedTo 26 = .ok (.ifCond .lt 5, 3) := dgX12_tiedTo_20.2.2.2.2.1
theorem dX12_tiedTo_29 : decode cX12_tiedTo 29 = .ok (.iload_n 2, 1) := dgX12_tiedTo_20.2.2.2.2.2.1
theorem dX12_tiedTo_30 : decode cX12_tiedTo 30 = .ok (.ireturn, 1) := dgX12_tiedTo_20.2.2.2.2.2.2.1
theorem dX12_tiedTo_31 : decode cX12_tiedTo 31 = .ok (.iinc 2 1, 3) := dgX12_tiedTo_20.2.2.2.2.2.2.2.1
theorem dX12_tiedTo_34 : decode cX12_tiedTo 34 = .ok (.goto (-32), 3) := dgX12_tiedTo_20.2.2.2.2.2.2.2.2.1
theorem dX12_tiedTo_37 : decode cX12_tiedTo 37 = .ok (.iconst (-1), 1) := by decide +kernel
theorem dgX12_tiedTo_38 : (decode cX12_tiedTo 38 = .ok (.ireturn, 1)) ∧ True := dkW [(38, .ireturn, 1)] 38 (by decide +kernel)
theorem dX12_tiedTo_38 : decode cX12_tiedTo 38 = .ok (.ireturn, 1) := dgX12_tiedTo_38.1
abbrev rmX12_tiedTo : Room := { frames := 0, cells := 0, slots := 0, locals := 0 }
noncomputable def fX12_tiedTo_b31 (N : Nat) (g2 : Hs → Int32 → Int32 → Option (Int32 × Hs)) (t : Nat) (h : Hs) (x1 : Int32) (x2 : Int32) : Option (Int32 × Hs) :=
  (some (x2 + 1)).bind fun y1 =>
  g2 h x1 y1
set_option maxHeartbeats 4000000 in
set_option maxRecDepth 20000 in
theorem wX12_tiedTo_b31 {p : Program} {l : Launch} {e : Env} {s : State} {m : MethodId} {args : Array Value} {below : List Frame} {meth : Method} {c : Code} {G : Gl} {N : Nat} {h : Hs} {r : Int32 × Hs} {g2 : Hs → Int32 → Int32 → Option (Int32 × Hs)} {t : Nat} {x1 : Int32} {x2 : Int32} (C : Cx p s m args meth c cX12_tiedTo RX12 3 G) (hret : meth.sig.returnType = (some .int)) (hg2 : ∀ (h : Hs) (x1 : Int32) (x2 : Int32), g2 h x1 x2 = some r → V p l e rmX12_tiedTo s m args below meth c G 3 (MQ below (QcG G (some (.inl r.1)) r.2) args s rmX12_tiedTo.cells rmX12_tiedTo.slots (AG G)) h 0 0 2 [some (.inr (some t)), some (.inl x1), some (.inl x2)] []) (hf : fX12_tiedTo_b31 N g2 t h x1 x2 = some r) : V p l e rmX12_tiedTo s m args below meth c G 3 (MQ below (QcG G (some (.inl r.1)) r.2) args s rmX12_tiedTo.cells rmX12_tiedTo.slots (AG G)) h 0 0 31 [some (.inr (some t)), some (.inl x1), some (.inl x2)] [] := by
  unfold fX12_tiedTo_b31 at hf
  obtain ⟨y1, ey1, hf⟩ := bS hf
  refine r_iincE (v := 1) C dX12_tiedTo_31 rfl (by decide) (by decide) ey1 ?_
  refine r_goto (tgt := 2) C dX12_tiedTo_34 (by decide) ?_
  exact V.sub (hg2 _ _ _ hf) (LW_s rfl (LW_s rfl (LW_s rfl (LW_e))))
noncomputable def fX12_tiedTo_b2_body (N : Nat)  (g2 : Hs → Int32 → Int32 → Option (Int32 × Hs)) (t : Nat) (h : Hs) (x1 : Int32) (x2 : Int32) : Option (Int32 × Hs) :=
  (oI 12 11 h (some t)).bind fun v1 =>
  if v1 ≤ x2 then (
  some ((-1), h))
  else (oR 12 12 h (some t)).bind fun o2 =>
  (lA 20 h o2 x2).bind fun v3 =>
  if v3 = x1 then (
  (oR 12 16 h (some t)).bind fun o4 =>
  (lA 20 h o4 x2).bind fun v5 =>
  if v5 < 0 then (
  fX12_tiedTo_b31 N g2 t h x1 x2)
  else some (x2, h))
  else fX12_tiedTo_b31 N g2 t h x1 x2
noncomputable def fX12_tiedTo_b2 (N : Nat)  (t : Nat) (n : Nat) : Hs → Int32 → Int32 → Option (Int32 × Hs) := lp (fun _ _ _ => none) (fun g h x1 x2 => fX12_tiedTo_b2_body N  g t h x1 x2) n
set_option maxHeartbeats 4000000 in
set_option maxRecDepth 20000 in
theorem wX12_tiedTo_b2_body {p : Program} {l : Launch} {e : Env} {s : State} {m : MethodId} {args : Array Value} {below : List Frame} {meth : Method} {c : Code} {G : Gl} {N : Nat} {h : Hs} {r : Int32 × Hs}  {g2 : Hs → Int32 → Int32 → Option (Int32 × Hs)} {t : Nat} {x1 : Int32} {x2 : Int32} (C : Cx p s m args meth c cX12_tiedTo RX12 3 G) (hret : meth.sig.returnType = (some .int))  (hg2 : ∀ (h : Hs) (x1 : Int32) (x2 : Int32), g2 h x1 x2 = some r → V p l e rmX12_tiedTo s m args below meth c G 3 (MQ below (QcG G (some (.inl r.1)) r.2) args s rmX12_tiedTo.cells rmX12_tiedTo.slots (AG G)) h 0 0 2 [some (.inr (some t)), some (.inl x1), some (.inl x2)] []) (hf : fX12_tiedTo_b2_body N  g2 t h x1 x2 = some r) : V p l e rmX12_tiedTo s m args below meth c G 3 (MQ below (QcG G (some (.inl r.1)) r.2) args s rmX12_tiedTo.cells rmX12_tiedTo.slots (AG G)) h 0 0 2 [some (.inr (some t)), some (.inl x1), some (.inl x2)] [] := by
  unfold fX12_tiedTo_b2_body at hf
  refine r_iload_n C dX12_tiedTo_2 rfl ?_
  refine r_aload_n C dX12_tiedTo_3 rfl ?_
  obtain ⟨v1, ev1, hf⟩ := bS hf
  refine r_getI C dX12_tiedTo_4 fl_X12_153 rfl ev1 ?_
  refine r_icmp_ge (tgt := 37) C dX12_tiedTo_7 (by decide) (fun hc => ?_) (fun hc => ?_)
  · have hf := ifT hf hc
    refine r_iconst (v := -1) C dX12_tiedTo_37 (by decide) ?_
    exact r_iretF C dX12_tiedTo_38 hret hf (by decide) (by decide)
  · have hf := ifF hf hc
    refine r_aload_n C dX12_tiedTo_10 rfl ?_
    obtain ⟨o2, eo2, hf⟩ := bS hf
    refine r_getR C dX12_tiedTo_11 fl_X12_34 rfl eo2 ?_
    refine r_iload_n C dX12_tiedTo_14 rfl ?_
    obtain ⟨v3, ev3, hf⟩ := bS hf
    refine r_iald C dX12_tiedTo_15 ev3 ?_
    refine r_iload_n C dX12_tiedTo_16 rfl ?_
    refine r_icmp_ne (tgt := 31) C dX12_tiedTo_17 (by decide) (fun hc => ?_) (fun hc => ?_)
    · have hf := ifF hf hc
      exact V.sub (wX12_tiedTo_b31 C hret hg2 hf) (LW_s rfl (LW_s rfl (LW_s rfl (LW_e))))
    · have hf := ifT hf hc
      refine r_aload_n C dX12_tiedTo_20 rfl ?_
      obtain ⟨o4, eo4, hf⟩ := bS hf
      refine r_getR C dX12_tiedTo_21 fl_X12_46 rfl eo4 ?_
      refine r_iload_n C dX12_tiedTo_24 rfl ?_
      obtain ⟨v5, ev5, hf⟩ := bS hf
      refine r_iald C dX12_tiedTo_25 ev5 ?_
      refine r_if_lt (tgt := 31) C dX12_tiedTo_26 (by decide) (fun hc => ?_) (fun hc => ?_)
      · have hf := ifT hf hc
        exact V.sub (wX12_tiedTo_b31 C hret hg2 hf) (LW_s rfl (LW_s rfl (LW_s rfl (LW_e))))
      · have hf := ifF hf hc
        refine r_iload_n C dX12_tiedTo_29 rfl ?_
        exact r_iretF C dX12_tiedTo_30 hret hf (by decide) (by decide)
theorem wX12_tiedTo_b2 {p : Program} {l : Launch} {e : Env} {s : State} {m : MethodId} {args : Array Value} {below : List Frame} {meth : Method} {c : Code} {G : Gl} {N : Nat} {r : Int32 × Hs}  {t : Nat} (C : Cx p s m args meth c cX12_tiedTo RX12 3 G) (hret : meth.sig.returnType = (some .int))  : ∀ (n : Nat) (h : Hs) (x1 : Int32) (x2 : Int32), fX12_tiedTo_b2 N  t n h x1 x2 = some r → V p l e rmX12_tiedTo s m args below meth c G 3 (MQ below (QcG G (some (.inl r.1)) r.2) args s rmX12_tiedTo.cells rmX12_tiedTo.slots (AG G)) h 0 0 2 [some (.inr (some t)), some (.inl x1), some (.inl x2)] [] := by
  intro n
  induction n with
  | zero => intro h x1 x2 hf; exact absurd (show (none : Option (Int32 × Hs)) = some r from hf) (fun q => by cases q)
  | succ n ih => intro h x1 x2 hf; exact wX12_tiedTo_b2_body C hret  ih (show fX12_tiedTo_b2_body N  (fX12_tiedTo_b2 N  t n) t h x1 x2 = some r from hf)
noncomputable def fX12_tiedTo (N : Nat) (h : Hs) (t : Nat) (p1 : Int32) : Option (Int32 × Hs) :=
  fX12_tiedTo_b2 N t N h p1 0
set_option maxHeartbeats 4000000 in
set_option maxRecDepth 20000 in
theorem kX12_tiedTo (l : Launch) (G : Gl) {N : Nat} {h : Hs} {t : Nat} {p1 : Int32} {r : Int32 × Hs} (hf : fX12_tiedTo N h t p1 = some r) : CT l G yX12_tiedTo cX12_tiedTo 3 (some .int) rmX12_tiedTo [.inr (some t), .inl p1] h (some (.inl r.1)) r.2 := by
  refine mk_CT (by decide) (Nat.le_of_ble_eq_true rfl) ?_
  intro p e s m args below meth c C hret hin
  unfold fX12_tiedTo at hf
  refine r_iconst (v := 0) C dX12_tiedTo_0 (by decide) ?_
  refine r_istore_n C dX12_tiedTo_1 (by decide) ?_
  exact V.sub (wX12_tiedTo_b2 C hret N _ _ _ hf) (LW_s rfl (LW_s rfl (LW_s rfl (LW_e))))

theorem dgX12_ofThing_0 : (decode cX12_ofThing 0 = .ok (.aload_n 0, 1)) ∧ (decode cX12_ofThing 1 = .ok (.iload_n 1, 1)) ∧ (decode cX12_ofThing 2 = .ok (.invokevirtual 166, 3)) ∧ (decode cX12_ofThing 5 = .ok (.ifCond .ne 6, 3)) ∧ (decode cX12_ofThing 8 = .ok (.bipush (-2), 2)) ∧ (decode cX12_ofThing 10 = .ok (.ireturn, 1)) ∧ (decode cX12_ofThing 11 = .ok (.iload_n 2, 1)) ∧ True := dkW [(0, .aload_n 0, 1), (1, .iload_n 1, 1), (2, .invokevirtual 166, 3), (5, .ifCond .ne 6, 3), (8, .bipush (-2), 2), (10, .ireturn, 1), (11, .iload_n 2, 1)] 0 (by decide +kernel)
theorem dX12_ofThing_0 : decode cX12_ofThing 0 = .ok (.aload_n 0, 1) := dgX12_ofThing_0.1
theorem dX12_ofThing_1 : decode cX12_ofThing 1 = .ok (.iload_n 1, 1) := dgX12_ofThing_0.2.1
theorem dX12_ofThing_2 : decode cX12_ofThing 2 = .ok (.invokevirtual 166, 3) := dgX12_ofThing_0.2.2.1
theorem dX12_ofThing_5 : decode cX12_ofThing 5 = .ok (.ifCond .ne 6, 3) := dgX12_ofThing_0.2.2.2.1
theorem dX12_ofThing_8 : decode cX12_ofThing 8 = .ok (.bipush (-2), 2) := dgX12_ofThing_0.2.2.2.2.1
theorem dX12_ofThing_10 : decode cX12_ofThing 10 = .ok (.ireturn, 1) := dgX12_ofThing_0.2.2.2.2.2.1
theorem dX12_ofThing_11 : decode cX12_ofThing 11 = .ok (.iload_n 2, 1) := dgX12_ofThing_0.2.2.2.2.2.2.1
theorem dX12_ofThing_12 : decode cX12_ofThing 12 = .ok (.tableswitch 115 0 7 #[48, 55, 62, 69, 76, 83, 90, 96], 48) := by decide +kernel
theorem dgX12_ofThing_60 : (decode cX12_ofThing 60 = .ok (.aload_n 0, 1)) ∧ (decode cX12_ofThing 61 = .ok (.getfield 7, 3)) ∧ (decode cX12_ofThing 64 = .ok (.iload_n 1, 1)) ∧ (decode cX12_ofThing 65 = .ok (.iaload, 1)) ∧ (decode cX12_ofThing 66 = .ok (.ireturn, 1)) ∧ (decode cX12_ofThing 67 = .ok (.aload_n 0, 1)) ∧ (decode cX12_ofThing 68 = .ok (.getfield 13, 3)) ∧ (decode cX12_ofThing 71 = .ok (.iload_n 1, 1)) ∧ (decode cX12_ofThing 72 = .ok (.iaload, 1)) ∧ (decode cX12_ofThing 73 = .ok (.ireturn, 1)) ∧ (decode cX12_ofThing 74 = .ok (.aload_n 0, 1)) ∧ (decode cX12_ofThing 75 = .ok (.getfield 16, 3)) ∧ True := dkW [(60, .aload_n 0, 1), (61, .getfield 7, 3), (64, .iload_n 1, 1), (65, .iaload, 1), (66, .ireturn, 1), (67, .aload_n 0, 1), (68, .getfield 13, 3), (71, .iload_n 1, 1), (72, .iaload, 1), (73, .ireturn, 1), (74, .aload_n 0, 1), (75, .getfield 16, 3)] 60 (by decide +kernel)
theorem dX12_ofThing_60 : decode cX12_ofThing 60 = .ok (.aload_n 0, 1) := dgX12_ofThing_60.1
theorem dX12_ofThing_61 : decode cX12_ofThing 61 = .ok (.getfield 7, 3) := dgX12_ofThing_60.2.1
theorem dX12_ofThing_64 : decode cX12_ofThing 64 = .ok (.iload_n 1, 1) := dgX12_ofThing_60.2.2.1
theorem dX12_ofThing_65 : decode cX12_ofThing 65 = .ok (.iaload, 1) := dgX12_ofThing_60.2.2.2.1
theorem dX12_ofThing_66 : decode cX12_ofThing 66 = .ok (.ireturn, 1) := dgX12_ofThing_60.2.2.2.2.1
theorem dX12_ofThing_67 : decode cX12_ofThing 67 = .ok (.aload_n 0, 1) := dgX12_ofThing_60.2.2.2.2.2.1
theorem dX12_ofThing_68 : decode cX12_ofThing 68 = .ok (.getfield 13, 3) := dgX12_ofThing_60.2.2.2.2.2.2.1
theorem dX12_ofThing_71 : decode cX12_ofThing 71 = .ok (.iload_n 1, 1) := dgX12_ofThing_60.2.2.2.2.2.2.2.1
theorem dX12_ofThing_72 : decode cX12_ofThing 72 = .ok (.iaload, 1) := dgX12_ofThing_60.2.2.2.2.2.2.2.2.1
theorem dX12_ofThing_73 : decode cX12_ofThing 73 = .ok (.ireturn, 1) := dgX12_ofThing_60.2.2.2.2.2.2.2.2.2.1
theorem dX12_ofThing_74 : decode cX12_ofThing 74 = .ok (.aload_n 0, 1) := dgX12_ofThing_60.2.2.2.2.2.2.2.2.2.2.1
theorem dX12_ofThing_75 : decode cX12_ofThing 75 = .ok (.getfield 16, 3) := dgX12_ofThing_60.2.2.2.2.2.2.2.2.2.2.2.1
theorem dgX12_ofThing_78 : (decode cX12_ofThing 78 = .ok (.iload_n 1, 1)) ∧ (decode cX12_ofThing 79 = .ok (.iaload, 1)) ∧ (decode cX12_ofThing 80 = .ok (.ireturn, 1)) ∧ (decode cX12_ofThing 81 = .ok (.aload_n 0, 1)) ∧ (decode cX12_ofThing 82 = .ok (.getfield 19, 3)) ∧ (decode cX12_ofThing 85 = .ok (.iload_n 1, 1)) ∧ (decode cX12_ofThing 86 = .ok (.iaload, 1)) ∧ (decode cX12_ofThing 87 = .ok (.ireturn, 1)) ∧ (decode cX12_ofThing 88 = .ok (.aload_n 0, 1)) ∧ (decode cX12_ofThing 89 = .ok (.getfield 22, 3)) ∧ (decode cX12_ofThing 92 = .ok (.iload_n 1, 1)) ∧ (decode cX12_ofThing 93 = .ok (.iaload, 1)) ∧ True := dkW [(78, .iload_n 1, 1), (79, .iaload, 1), (80, .ireturn, 1), (81, .aload_n 0, 1), (82, .getfield 19, 3), (85, .iload_n 1, 1), (86, .iaload, 1), (87, .ireturn, 1), (88, .aload_n 0, 1), (89, .getfield 22, 3), (92, .iload_n 1, 1), (93, .iaload, 1)] 78 (by decide +kernel)
theorem dX12_ofThing_78 : decode cX12_ofThing 78 = .ok (.iload_n 1, 1) := dgX12_ofThing_78.1
theorem dX12_ofThing_79 : decode cX12_ofThing 79 = .ok (.iaload, 1) := dgX12_ofThing_78.2.1
theorem dX12_ofThing_80 : decode cX12_ofThing 80 = .ok (.ireturn, 1) := dgX12_ofThing_78.2.2.1
theorem dX12_ofThing_81 : decode cX12_ofThing 81 = .ok (.aload_n 0, 1) := dgX12_ofThing_78.2.2.2.1
theorem dX12_ofThing_82 : decode cX12_ofThing 82 = .ok (.getfield 19, 3) := dgX12_ofThing_78.2.2.2.2.1
theorem dX12_ofThing_85 : decode cX12_ofThing 85 = .ok (.iload_n 1, 1) := dgX12_ofThing_78.2.2.2.2.2.1
theorem dX12_ofThing_86 : decode cX12_ofThing 86 = .ok (.iaload, 1) := dgX12_ofThing_78.2.2.2.2.2.2.1
theorem dX12_ofThing_87 : decode cX12_ofThing 87 = .ok (.ireturn, 1) := dgX12_ofThing_78.2.2.2.2.2.2.2.1
theorem dX12_ofThing_88 : decode cX12_ofThing 88 = .ok (.aload_n 0, 1) := dgX12_ofThing_78.2.2.2.2.2.2.2.2.1
theorem dX12_ofThing_89 : decode cX12_ofThing 89 = .ok (.getfield 22, 3) := dgX12_ofThing_78.2.2.2.2.2.2.2.2.2.1
theorem dX12_ofThing_92 : decode cX12_ofThing 92 = .ok (.iload_n 1, 1) := dgX12_ofThing_78.2.2.2.2.2.2.2.2.2.2.1
theorem dX12_ofThing_93 : decode cX12_ofThing 93 = .ok (.iaload, 1) := dgX12_ofThing_78.2.2.2.2.2.2.2.2.2.2.2.1
theorem dgX12_ofThing_94 : (decode cX12_ofThing 94 = .ok (.ireturn, 1)) ∧ (decode cX12_ofThing 95 = .ok (.aload_n 0, 1)) ∧ (decode cX12_ofThing 96 = .ok (.getfield 25, 3)) ∧ (decode cX12_ofThing 99 = .ok (.iload_n 1, 1)) ∧ (decode cX12_ofThing 100 = .ok (.iaload, 1)) ∧ (decode cX12_ofThing 101 = .ok (.ireturn, 1)) ∧ (decode cX12_ofThing 102 = .ok (.aload_n 0, 1)) ∧ (decode cX12_ofThing 103 = .ok (.iload_n 1, 1)) ∧ (decode cX12_ofThing 104 = .ok (.invokevirtual 170, 3)) ∧ (decode cX12_ofThing 107 = .ok (.ireturn, 1)) ∧ (decode cX12_ofThing 108 = .ok (.aload_n 0, 1)) ∧ (decode cX12_ofThing 109 = .ok (.iload_n 1, 1)) ∧ True := dkW [(94, .ireturn, 1), (95, .aload_n 0, 1), (96, .getfield 25, 3), (99, .iload_n 1, 1), (100, .iaload, 1), (101, .ireturn, 1), (102, .aload_n 0, 1), (103, .iload_n 1, 1), (104, .invokevirtual 170, 3), (107, .ireturn, 1), (108, .aload_n 0, 1), (109, .iload_n 1, 1)] 94 (by decide +kernel)
theorem dX12_ofThing_94 : decode cX12_ofThing 94 = .ok (.ireturn, 1) := dgX12_ofThing_94.1
theorem dX12_ofThing_95 : decode cX12_ofThing 95 = .ok (.aload_n 0, 1) := dgX12_ofThing_94.2.1
theorem dX12_ofThing_96 : decode cX12_ofThing 96 = .ok (.getfield 25, 3) := dgX12_ofThing_94.2.2.1
theorem dX12_ofThing_99 : decode cX12_ofThing 99 = .ok (.iload_n 1, 1) := dgX12_ofThing_94.2.2.2.1
theorem dX12_ofThing_100 : decode cX12_ofThing 100 = .ok (.iaload, 1) := dgX12_ofThing_94.2.2.2.2.1
theorem dX12_ofThing_101 : decode cX12_ofThing 101 = .ok (.ireturn, 1) := dgX12_ofThing_94.2.2.2.2.2.1
theorem dX12_ofThing_102 : decode cX12_ofThing 102 = .ok (.aload_n 0, 1) := dgX12_ofThing_94.2.2.2.2.2.2.1
theorem dX12_ofThing_103 : decode cX12_ofThing 103 = .ok (.iload_n 1, 1) := dgX12_ofThing_94.2.2.2.2.2.2.2.1
theorem dX12_ofThing_104 : decode cX12_ofThing 104 = .ok (.invokevirtual 170, 3) := dgX12_ofThing_94.2.2.2.2.2.2.2.2.1
theorem dX12_ofThing_107 : decode cX12_ofThing 107 = .ok (.ireturn, 1) := dgX12_ofThing_94.2.2.2.2.2.2.2.2.2.1
theorem dX12_ofThing_108 : decode cX12_ofThing 108 = .ok (.aload_n 0, 1) := dgX12_ofThing_94.2.2.2.2.2.2.2.2.2.2.1
theorem dX12_ofThing_109 : decode cX12_ofThing 109 = .ok (.iload_n 1, 1) := dgX12_ofThing_94.2.2.2.2.2.2.2.2.2.2.2.1
theorem dgX12_ofThing_110 : (decode cX12_ofThing 110 = .ok (.invokevirtual 170, 3)) ∧ (decode cX12_ofThing 113 = .ok (.ifCond .ge 7, 3)) ∧ True := dkW [(110, .invokevirtual 170, 3), (113, .ifCond .ge 7, 3)] 110 (by decide +kernel)
theorem dX12_ofThing_110 : decode cX12_ofThing 110 = .ok (.invokevirtual 170, 3) := dgX12_ofThing_110.1
theorem dX12_ofThing_113 : decode cX12_ofThing 113 = .ok (.ifCond .ge 7, 3) := dgX12_ofThing_110.2.1
theorem dX12_ofThing_116 : decode cX12_ofThing 116 = .ok (.iconst (-1), 1) := by decide +kernel
theorem dgX12_ofThing_117 : (decode cX12_ofThing 117 = .ok (.goto 9, 3)) ∧ (decode cX12_ofThing 120 = .ok (.aload_n 0, 1)) ∧ (decode cX12_ofThing 121 = .ok (.getfield 28, 3)) ∧ (decode cX12_ofThing 124 = .ok (.iload_n 1, 1)) ∧ (decode cX12_ofThing 125 = .ok (.iaload, 1)) ∧ (decode cX12_ofThing 126 = .ok (.ireturn, 1)) ∧ (decode cX12_ofThing 127 = .ok (.bipush (-2), 2)) ∧ (decode cX12_ofThing 129 = .ok (.ireturn, 1)) ∧ True := dkW [(117, .goto 9, 3), (120, .aload_n 0, 1), (121, .getfield 28, 3), (124, .iload_n 1, 1), (125, .iaload, 1), (126, .ireturn, 1), (127, .bipush (-2), 2), (129, .ireturn, 1)] 117 (by decide +kernel)
theorem dX12_ofThing_117 : decode cX12_ofThing 117 = .ok (.goto 9, 3) := dgX12_ofThing_117.1
theorem dX12_ofThing_120 : decode cX12_ofThing 120 = .ok (.aload_n 0, 1) := dgX12_ofThing_117.2.1
theorem dX12_ofThing_121 : decode cX12_ofThing 121 = .ok (.getfield 28, 3) := dgX12_ofThing_117.2.2.1
theorem dX12_ofThing_124 : decode cX12_ofThing 124 = .ok (.iload_n 1, 1) := dgX12_ofThing_117.2.2.2.1
theorem dX12_ofThing_125 : decode cX12_ofThing 125 = .ok (.iaload, 1) := dgX12_ofThing_117.2.2.2.2.1
theorem dX12_ofThing_126 : decode cX12_ofThing 126 = .ok (.ireturn, 1) := dgX12_ofThing_117.2.2.2.2.2.1
theorem dX12_ofThing_127 : decode cX12_ofThing 127 = .ok (.bipush (-2), 2) := dgX12_ofThing_117.2.2.2.2.2.2.1
theorem dX12_ofThing_129 : decode cX12_ofThing 129 = .ok (.ireturn, 1) := dgX12_ofThing_117.2.2.2.2.2.2.2.1
abbrev rmX12_ofThing : Room := { frames := 2, cells := 0, slots := 0, locals := 43 }
noncomputable def fX12_ofThing_b126 (N : Nat)  (t : Nat) (h : Hs) (u0 : Int32) : Option (Int32 × Hs) :=
  some (u0, h)
set_option maxHeartbeats 4000000 in
set_option maxRecDepth 20000 in
theorem wX12_ofThing_b126 {p : Program} {l : Launch} {e : Env} {s : State} {m : MethodId} {args : Array Value} {below : List Frame} {meth : Method} {c : Code} {G : Gl} {N : Nat} {h : Hs} {r : Int32 × Hs}  {t : Nat} {u0 : Int32} (C : Cx p s m args meth c cX12_ofThing RX12 3 G) (hret : meth.sig.returnType = (some .int))  (hf : fX12_ofThing_b126 N  t h u0 = some r) : V p l e rmX12_ofThing s m args below meth c G 3 (MQ below (QcG G (some (.inl r.1)) r.2) args s rmX12_ofThing.cells rmX12_ofThing.slots (AG G)) h 0 0 126 [some (.inr (some t)), none, none] [.inl u0] := by
  unfold fX12_ofThing_b126 at hf
  exact r_iretF C dX12_ofThing_126 hret hf (by decide) (by decide)
noncomputable def fX12_ofThing (N : Nat) (h : Hs) (t : Nat) (p1 : Int32) (p2 : Int32) : Option (Int32 × Hs) :=
  (rc 12 h (some t)).bind fun a2 =>
  (fX12_isThing N h a2 p1).bind fun r1 =>
  if r1.1 = 0 then (
  some ((-2), r1.2))
  else if p2 = 0 then (
  (oR 12 2 r1.2 (some t)).bind fun o3 =>
  (lA 20 r1.2 o3 p1).bind fun v4 =>
  some (v4, r1.2))
  else if p2 = 1 then (
  (oR 12 3 r1.2 (some t)).bind fun o5 =>
  (lA 20 r1.2 o5 p1).bind fun v6 =>
  some (v6, r1.2))
  else if p2 = 2 then (
  (oR 12 4 r1.2 (some t)).bind fun o7 =>
  (lA 20 r1.2 o7 p1).bind fun v8 =>
  some (v8, r1.2))
  else if p2 = 3 then (
  (oR 12 5 r1.2 (some t)).bind fun o9 =>
  (lA 20 r1.2 o9 p1).bind fun v10 =>
  some (v10, r1.2))
  else if p2 = 4 then (
  (oR 12 6 r1.2 (some t)).bind fun o11 =>
  (lA 20 r1.2 o11 p1).bind fun v12 =>
  some (v12, r1.2))
  else if p2 = 5 then (
  (oR 12 7 r1.2 (some t)).bind fun o13 =>
  (lA 20 r1.2 o13 p1).bind fun v14 =>
  some (v14, r1.2))
  else if p2 = 6 then (
  (rc 12 r1.2 (some t)).bind fun a16 =>
  (fX12_tiedTo N r1.2 a16 p1).bind fun r15 =>
  some (r15.1, r15.2))
  else if p2 = 7 then (
  (rc 12 r1.2 (some t)).bind fun a18 =>
  (fX12_tiedTo N r1.2 a18 p1).bind fun r17 =>
  if 0 ≤ r17.1 then (
  (oR 12 8 r17.2 (some t)).bind fun o19 =>
  (lA 20 r17.2 o19 p1).bind fun v20 =>
  fX12_ofThing_b126 N t r17.2 v20)
  else fX12_ofThing_b126 N t r17.2 (-1))
  else some ((-2), r1.2)
set_option maxHeartbeats 4000000 in
set_option maxRecDepth 20000 in
theorem kX12_ofThing (l : Launch) (G : Gl) {N : Nat} {h : Hs} {t : Nat} {p1 : Int32} {p2 : Int32} {r : Int32 × Hs} (hf : fX12_ofThing N h t p1 p2 = some r) : CT l G yX12_ofThing cX12_ofThing 3 (some .int) rmX12_ofThing [.inr (some t), .inl p1, .inl p2] h (some (.inl r.1)) r.2 := by
  refine mk_CT (by decide) (Nat.le_of_ble_eq_true rfl) ?_
  intro p e s m args below meth c C hret hin
  unfold fX12_ofThing at hf
  refine r_aload_n C dX12_ofThing_0 rfl ?_
  refine r_iload_n C dX12_ofThing_1 rfl ?_
  obtain ⟨a2, ea2, hf⟩ := bS hf
  obtain ⟨r1, er1, hf⟩ := bS hf
  refine r_invV1 (As := [.inl p1]) (ci := 12) C dX12_ofThing_2 mcX12_isThing wd_1192 wd_1194 wp_31 rfl rfl (by decide) ⟨by decide, by decide⟩ ⟨by decide, by decide⟩ rfl (Nat.le_of_ble_eq_true rfl) ea2 (kX12_isThing l G er1) ?_
  refine r_if_ne (tgt := 11) C dX12_ofThing_5 (by decide) (fun hc => ?_) (fun hc => ?_)
  · have hf := ifF hf hc
    refine r_iload_n C dX12_ofThing_11 rfl ?_
    by_cases k0 : p2 = 0
    · have hf := ifT hf k0
      refine r_tabIn (tgt := 60) (off := 48) C dX12_ofThing_12 (by rw [k0]; decide) (by rw [k0]; decide) (by rw [k0]; rfl) (by decide) ?_
      refine r_aload_n C dX12_ofThing_60 rfl ?_
      obtain ⟨o3, eo3, hf⟩ := bS hf
      refine r_getR C dX12_ofThing_61 fl_X12_7 rfl eo3 ?_
      refine r_iload_n C dX12_ofThing_64 rfl ?_
      obtain ⟨v4, ev4, hf⟩ := bS hf
      refine r_iald C dX12_ofThing_65 ev4 ?_
      exact r_iretF C dX12_ofThing_66 hret hf (by decide) (by decide)
    · have hf := ifF hf k0
      by_cases k1 : p2 = 1
      · have hf := ifT hf k1
        refine r_tabIn (tgt := 67) (off := 55) C dX12_ofThing_12 (by rw [k1]; decide) (by rw [k1]; decide) (by rw [k1]; rfl) (by decide) ?_
        refine r_aload_n C dX12_ofThing_67 rfl ?_
        obtain ⟨o5, eo5, hf⟩ := bS hf
        refine r_getR C dX12_ofThing_68 fl_X12_13 rfl eo5 ?_
        refine r_iload_n C dX12_ofThing_71 rfl ?_
        obtain ⟨v6, ev6, hf⟩ := bS hf
        refine r_iald C dX12_ofThing_72 ev6 ?_
        exact r_iretF C dX12_ofThing_73 hret hf (by decide) (by decide)
      · have hf := ifF hf k1
        by_cases k2 : p2 = 2
        · have hf := ifT hf k2
          refine r_tabIn (tgt := 74) (off := 62) C dX12_ofThing_12 (by rw [k2]; decide) (by rw [k2]; decide) (by rw [k2]; rfl) (by decide) ?_
          refine r_aload_n C dX12_ofThing_74 rfl ?_
          obtain ⟨o7, eo7, hf⟩ := bS hf
          refine r_getR C dX12_ofThing_75 fl_X12_16 rfl eo7 ?_
          refine r_iload_n C dX12_ofThing_78 rfl ?_
          obtain ⟨v8, ev8, hf⟩ := bS hf
          refine r_iald C dX12_ofThing_79 ev8 ?_
          exact r_iretF C dX12_ofThing_80 hret hf (by decide) (by decide)
        · have hf := ifF hf k2
          by_cases k3 : p2 = 3
          · have hf := ifT hf k3
            refine r_tabIn (tgt := 81) (off := 69) C dX12_ofThing_12 (by rw [k3]; decide) (by rw [k3]; decide) (by rw [k3]; rfl) (by decide) ?_
            refine r_aload_n C dX12_ofThing_81 rfl ?_
            obtain ⟨o9, eo9, hf⟩ := bS hf
            refine r_getR C dX12_ofThing_82 fl_X12_19 rfl eo9 ?_
            refine r_iload_n C dX12_ofThing_85 rfl ?_
            obtain ⟨v10, ev10, hf⟩ := bS hf
            refine r_iald C dX12_ofThing_86 ev10 ?_
            exact r_iretF C dX12_ofThing_87 hret hf (by decide) (by decide)
          · have hf := ifF hf k3
            by_cases k4 : p2 = 4
            · have hf := ifT hf k4
              refine r_tabIn (tgt := 88) (off := 76) C dX12_ofThing_12 (by rw [k4]; decide) (by rw [k4]; decide) (by rw [k4]; rfl) (by decide) ?_
              refine r_aload_n C dX12_ofThing_88 rfl ?_
              obtain ⟨o11, eo11, hf⟩ := bS hf
              refine r_getR C dX12_ofThing_89 fl_X12_22 rfl eo11 ?_
              refine r_iload_n C dX12_ofThing_92 rfl ?_
              obtain ⟨v12, ev12, hf⟩ := bS hf
              refine r_iald C dX12_ofThing_93 ev12 ?_
              exact r_iretF C dX12_ofThing_94 hret hf (by decide) (by decide)
            · have hf := ifF hf k4
              by_cases k5 : p2 = 5
              · have hf := ifT hf k5
                refine r_tabIn (tgt := 95) (off := 83) C dX12_ofThing_12 (by rw [k5]; decide) (by rw [k5]; decide) (by rw [k5]; rfl) (by decide) ?_
                refine r_aload_n C dX12_ofThing_95 rfl ?_
                obtain ⟨o13, eo13, hf⟩ := bS hf
                refine r_getR C dX12_ofThing_96 fl_X12_25 rfl eo13 ?_
                refine r_iload_n C dX12_ofThing_99 rfl ?_
                obtain ⟨v14, ev14, hf⟩ := bS hf
                refine r_iald C dX12_ofThing_100 ev14 ?_
                exact r_iretF C dX12_ofThing_101 hret hf (by decide) (by decide)
              · have hf := ifF hf k5
                by_cases k6 : p2 = 6
                · have hf := ifT hf k6
                  refine r_tabIn (tgt := 102) (off := 90) C dX12_ofThing_12 (by rw [k6]; decide) (by rw [k6]; decide) (by rw [k6]; rfl) (by decide) ?_
                  refine r_aload_n C dX12_ofThing_102 rfl ?_
                  refine r_iload_n C dX12_ofThing_103 rfl ?_
                  obtain ⟨a16, ea16, hf⟩ := bS hf
                  obtain ⟨r15, er15, hf⟩ := bS hf
                  refine r_invV1 (As := [.inl p1]) (ci := 12) C dX12_ofThing_104 mcX12_tiedTo wd_1196 wd_1198 wp_32 rfl rfl (by decide) ⟨by decide, by decide⟩ ⟨by decide, by decide⟩ rfl (Nat.le_of_ble_eq_true rfl) ea16 (kX12_tiedTo l G er15) ?_
                  exact r_iretF C dX12_ofThing_107 hret hf (by decide) (by decide)
                · have hf := ifF hf k6
                  by_cases k7 : p2 = 7
                  · have hf := ifT hf k7
                    refine r_tabIn (tgt := 108) (off := 96) C dX12_ofThing_12 (by rw [k7]; decide) (by rw [k7]; decide) (by rw [k7]; rfl) (by decide) ?_
                    refine r_aload_n C dX12_ofThing_108 rfl ?_
                    refine r_iload_n C dX12_ofThing_109 rfl ?_
                    obtain ⟨a18, ea18, hf⟩ := bS hf
                    obtain ⟨r17, er17, hf⟩ := bS hf
                    refine r_invV1 (As := [.inl p1]) (ci := 12) C dX12_ofThing_110 mcX12_tiedTo wd_1196 wd_1198 wp_32 rfl rfl (by decide) ⟨by decide, by decide⟩ ⟨by decide, by decide⟩ rfl (Nat.le_of_ble_eq_true rfl) ea18 (kX12_tiedTo l G er17) ?_
                    refine r_if_ge (tgt := 120) C dX12_ofThing_113 (by decide) (fun hc => ?_) (fun hc => ?_)
                    · have hf := ifT hf hc
                      refine r_aload_n C dX12_ofThing_120 rfl ?_
                      obtain ⟨o19, eo19, hf⟩ := bS hf
                      refine r_getR C dX12_ofThing_121 fl_X12_28 rfl eo19 ?_
                      refine r_iload_n C dX12_ofThing_124 rfl ?_
                      obtain ⟨v20, ev20, hf⟩ := bS hf
                      refine r_iald C dX12_ofThing_125 ev20 ?_
                      exact V.sub (wX12_ofThing_b126 C hret hf) (LW_s rfl (LW_n (LW_n (LW_e))))
                    · have hf := ifF hf hc
                      refine r_iconst (v := -1) C dX12_ofThing_116 (by decide) ?_
                      refine r_goto (tgt := 126) C dX12_ofThing_117 (by decide) ?_
                      exact V.sub (wX12_ofThing_b126 C hret hf) (LW_s rfl (LW_n (LW_n (LW_e))))
                  · have hf := ifF hf k7
                    refine r_tabOut (tgt := 127) C dX12_ofThing_12 (sw_out (lo := 0) (hi := 7) [0, 1, 2, 3, 4, 5, 6, 7] (by decide) (List.forall_mem_cons.mpr ⟨k0, List.forall_mem_cons.mpr ⟨k1, List.forall_mem_cons.mpr ⟨k2, List.forall_mem_cons.mpr ⟨k3, List.forall_mem_cons.mpr ⟨k4, List.forall_mem_cons.mpr ⟨k5, List.forall_mem_cons.mpr ⟨k6, List.forall_mem_cons.mpr ⟨k7, fun _ q => absurd q List.not_mem_nil⟩⟩⟩⟩⟩⟩⟩⟩)) (by decide) ?_
                    refine r_bipush (v := -2) C dX12_ofThing_127 (by decide) ?_
                    exact r_iretF C dX12_ofThing_129 hret hf (by decide) (by decide)
  · have hf := ifT hf hc
    refine r_bipush (v := -2) C dX12_ofThing_8 (by decide) ?_
    exact r_iretF C dX12_ofThing_10 hret hf (by decide) (by decide)
