theorem dgX5_addThing_0 : (decode cX5_addThing 0 = .ok (.iload_n 1, 1)) ∧ (decode cX5_addThing 1 = .ok (.bipush 100, 2)) ∧ (decode cX5_addThing 3 = .ok (.idiv, 1)) ∧ (decode cX5_addThing 4 = .ok (.istore 5, 2)) ∧ (decode cX5_addThing 6 = .ok (.iload_n 1, 1)) ∧ (decode cX5_addThing 7 = .ok (.bipush 100, 2)) ∧ (decode cX5_addThing 9 = .ok (.irem, 1)) ∧ (decode cX5_addThing 10 = .ok (.istore 6, 2)) ∧ (decode cX5_addThing 12 = .ok (.iload_n 3, 1)) ∧ (decode cX5_addThing 13 = .ok (.bipush 100, 2)) ∧ (decode cX5_addThing 15 = .ok (.idiv, 1)) ∧ (decode cX5_addThing 16 = .ok (.istore 7, 2)) ∧ True := dkW [(0, .iload_n 1, 1), (1, .bipush 100, 2), (3, .idiv, 1), (4, .istore 5, 2), (6, .iload_n 1, 1), (7, .bipush 100, 2), (9, .irem, 1), (10, .istore 6, 2), (12, .iload_n 3, 1), (13, .bipush 100, 2), (15, .idiv, 1), (16, .istore 7, 2)] 0 (by decide +kernel)
theorem dX5_addThing_0 : decode cX5_addThing 0 = .ok (.iload_n 1, 1) := dgX5_addThing_0.1
theorem dX5_addThing_1 : decode cX5_addThing 1 = .ok (.bipush 100, 2) := dgX5_addThing_0.2.1
theorem dX5_addThing_3 : decode cX5_addThing 3 = .ok (.idiv, 1) := dgX5_addThing_0.2.2.1
theorem dX5_addThing_4 : decode cX5_addThing 4 = .ok (.istore 5, 2) := dgX5_addThing_0.2.2.2.1
theorem dX5_addThing_6 : decode cX5_addThing 6 = .ok (.iload_n 1, 1) := dgX5_addThing_0.2.2.2.2.1
theorem dX5_addThing_7 : decode cX5_addThing 7 = .ok (.bipush 100, 2) := dgX5_addThing_0.2.2.2.2.2.1
theorem dX5_addThing_9 : decode cX5_addThing 9 = .ok (.irem, 1) := dgX5_addThing_0.2.2.2.2.2.2.1
theorem dX5_addThing_10 : decode cX5_addThing 10 = .ok (.istore 6, 2) := dgX5_addThing_0.2.2.2.2.2.2.2.1
theorem dX5_addThing_12 : decode cX5_addThing 12 = .ok (.iload_n 3, 1) := dgX5_addThing_0.2.2.2.2.2.2.2.2.1
theorem dX5_addThing_13 : decode cX5_addThing 13 = .ok (.bipush 100, 2) := dgX5_addThing_0.2.2.2.2.2.2.2.2.2.1
theorem dX5_addThing_15 : decode cX5_addThing 15 = .ok (.idiv, 1) := dgX5_addThing_0.2.2.2.2.2.2.2.2.2.2.1
theorem dX5_addThing_16 : decode cX5_addThing 16 = .ok (.istore 7, 2) := dgX5_addThing_0.2.2.2.2.2.2.2.2.2.2.2.1
theorem dgX5_addThing_18 : (decode cX5_addThing 18 = .ok (.iload_n 3, 1)) ∧ (decode cX5_addThing 19 = .ok (.bipush 100, 2)) ∧ (decode cX5_addThing 21 = .ok (.irem, 1)) ∧ (decode cX5_addThing 22 = .ok (.istore 8, 2)) ∧ (decode cX5_addThing 24 = .ok (.iload_n 2, 1)) ∧ (decode cX5_addThing 25 = .ok (.iconst 1, 1)) ∧ (decode cX5_addThing 26 = .ok (.bipush 60, 2)) ∧ (decode cX5_addThing 28 = .ok (.invokestatic 50, 3)) ∧ (decode cX5_addThing 31 = .ok (.ifCond .eq 19, 3)) ∧ (decode cX5_addThing 34 = .ok (.iload 4, 2)) ∧ (decode cX5_addThing 36 = .ok (.iconst 0, 1)) ∧ (decode cX5_addThing 37 = .ok (.sipush 999, 3)) ∧ True := dkW [(18, .iload_n 3, 1), (19, .bipush 100, 2), (21, .irem, 1), (22, .istore 8, 2), (24, .iload_n 2, 1), (25, .iconst 1, 1), (26, .bipush 60, 2), (28, .invokestatic 50, 3), (31, .ifCond .eq 19, 3), (34, .iload 4, 2), (36, .iconst 0, 1), (37, .sipush 999, 3)] 18 (by decide +kernel)
theorem dX5_addThing_18 : decode cX5_addThing 18 = .ok (.iload_n 3, 1) := dgX5_addThing_18.1
theorem dX5_addThing_19 : decode cX5_addThing 19 = .ok (.bipush 100, 2) := dgX5_addThing_18.2.1
theorem dX5_addThing_21 : decode cX5_addThing 21 = .ok (.irem, 1) := dgX5_addThing_18.2.2.1
theorem dX5_addThing_22 : decode cX5_addThing 22 = .ok (.istore 8, 2) := dgX5_addThing_18.2.2.2.1
theorem dX5_addThing_24 : decode cX5_addThing 24 = .ok (.iload_n 2, 1) := dgX5_addThing_18.2.2.2.2.1
theorem dX5_addThing_25 : decode cX5_addThing 25 = .ok (.iconst 1, 1) := dgX5_addThing_18.2.2.2.2.2.1
theorem dX5_addThing_26 : decode cX5_addThing 26 = .ok (.bipush 60, 2) := dgX5_addThing_18.2.2.2.2.2.2.1
theorem dX5_addThing_28 : decode cX5_addThing 28 = .ok (.invokestatic 50, 3) := dgX5_addThing_18.2.2.2.2.2.2.2.1
theorem dX5_addThing_31 : decode cX5_addThing 31 = .ok (.ifCond .eq 19, 3) := dgX5_addThing_18.2.2.2.2.2.2.2.2.1
theorem dX5_addThing_34 : decode cX5_addThing 34 = .ok (.iload 4, 2) := dgX5_addThing_18.2.2.2.2.2.2.2.2.2.1
theorem dX5_addThing_36 : decode cX5_addThing 36 = .ok (.iconst 0, 1) := dgX5_addThing_18.2.2.2.2.2.2.2.2.2.2.1
theorem dX5_addThing_37 : decode cX5_addThing 37 = .ok (.sipush 999, 3) := dgX5_addThing_18.2.2.2.2.2.2.2.2.2.2.2.1
theorem dgX5_addThing_40 : (decode cX5_addThing 40 = .ok (.invokestatic 50, 3)) ∧ (decode cX5_addThing 43 = .ok (.ifCond .eq 7, 3)) ∧ (decode cX5_addThing 46 = .ok (.iconst 1, 1)) ∧ (decode cX5_addThing 47 = .ok (.goto 4, 3)) ∧ (decode cX5_addThing 50 = .ok (.iconst 0, 1)) ∧ (decode cX5_addThing 51 = .ok (.istore 9, 2)) ∧ (decode cX5_addThing 53 = .ok (.iload 6, 2)) ∧ (decode cX5_addThing 55 = .ok (.iload 7, 2)) ∧ (decode cX5_addThing 57 = .ok (.iload 8, 2)) ∧ (decode cX5_addThing 59 = .ok (.invokestatic 50, 3)) ∧ (decode cX5_addThing 62 = .ok (.ifCond .eq 20, 3)) ∧ (decode cX5_addThing 65 = .ok (.iload_n 3, 1)) ∧ True := dkW [(40, .invokestatic 50, 3), (43, .ifCond .eq 7, 3), (46, .iconst 1, 1), (47, .goto 4, 3), (50, .iconst 0, 1), (51, .istore 9, 2), (53, .iload 6, 2), (55, .iload 7, 2), (57, .iload 8, 2), (59, .invokestatic 50, 3), (62, .ifCond .eq 20, 3), (65, .iload_n 3, 1)] 40 (by decide +kernel)
theorem dX5_addThing_40 : decode cX5_addThing 40 = .ok (.invokestatic 50, 3) := dgX5_addThing_40.1
theorem dX5_addThing_43 : decode cX5_addThing 43 = .ok (.ifCond .eq 7, 3) := dgX5_addThing_40.2.1
theorem dX5_addThing_46 : decode cX5_addThing 46 = .ok (.iconst 1, 1) := dgX5_addThing_40.2.2.1
theorem dX5_addThing_47 : decode cX5_addThing 47 = .ok (.goto 4, 3) := dgX5_addThing_40.2.2.2.1
theorem dX5_addThing_50 : decode cX5_addThing 50 = .ok (.iconst 0, 1) := dgX5_addThing_40.2.2.2.2.1
theorem dX5_addThing_51 : decode cX5_addThing 51 = .ok (.istore 9, 2) := dgX5_addThing_40.2.2.2.2.2.1
theorem dX5_addThing_53 : decode cX5_addThing 53 = .ok (.iload 6, 2) := dgX5_addThing_40.2.2.2.2.2.2.1
theorem dX5_addThing_55 : decode cX5_addThing 55 = .ok (.iload 7, 2) := dgX5_addThing_40.2.2.2.2.2.2.2.1
theorem dX5_addThing_57 : decode cX5_addThing 57 = .ok (.iload 8, 2) := dgX5_addThing_40.2.2.2.2.2.2.2.2.1
theorem dX5_addThing_59 : decode cX5_addThing 59 = .ok (.invokestatic 50, 3) := dgX5_addThing_40.2.2.2.2.2.2.2.2.2.1
theorem dX5_addThing_62 : decode cX5_addThing 62 = .ok (.ifCond .eq 20, 3) := dgX5_addThing_40.2.2.2.2.2.2.2.2.2.2.1
theorem dX5_addThing_65 : decode cX5_addThing 65 = .ok (.iload_n 3, 1) := dgX5_addThing_40.2.2.2.2.2.2.2.2.2.2.2.1
theorem dgX5_addThing_66 : (decode cX5_addThing 66 = .ok (.ifCond .lt 16, 3)) ∧ (decode cX5_addThing 69 = .ok (.iload 8, 2)) ∧ (decode cX5_addThing 71 = .ok (.iload_n 2, 1)) ∧ (decode cX5_addThing 72 = .ok (.iadd, 1)) ∧ (decode cX5_addThing 73 = .ok (.bipush 100, 2)) ∧ (decode cX5_addThing 75 = .ok (.if_icmp .gt 7, 3)) ∧ (decode cX5_addThing 78 = .ok (.iconst 1, 1)) ∧ (decode cX5_addThing 79 = .ok (.goto 4, 3)) ∧ (decode cX5_addThing 82 = .ok (.iconst 0, 1)) ∧ (decode cX5_addThing 83 = .ok (.istore 10, 2)) ∧ (decode cX5_addThing 85 = .ok (.iload_n 1, 1)) ∧ (decode cX5_addThing 86 = .ok (.invokestatic 60, 3)) ∧ True := dkW [(66, .ifCond .lt 16, 3), (69, .iload 8, 2), (71, .iload_n 2, 1), (72, .iadd, 1), (73, .bipush 100, 2), (75, .if_icmp .gt 7, 3), (78, .iconst 1, 1), (79, .goto 4, 3), (82, .iconst 0, 1), (83, .istore 10, 2), (85, .iload_n 1, 1), (86, .invokestatic 60, 3)] 66 (by decide +kernel)
theorem dX5_addThing_66 : decode cX5_addThing 66 = .ok (.ifCond .lt 16, 3) := dgX5_addThing_66.1
theorem dX5_addThing_69 : decode cX5_addThing 69 = .ok (.iload 8, 2) := dgX5_addThing_66.2.1
theorem dX5_addThing_71 : decode cX5_addThing 71 = .ok (.iload_n 2, 1) := dgX5_addThing_66.2.2.1
theorem dX5_addThing_72 : decode cX5_addThing 72 = .ok (.iadd, 1) := dgX5_addThing_66.2.2.2.1
theorem dX5_addThing_73 : decode cX5_addThing 73 = .ok (.bipush 100, 2) := dgX5_addThing_66.2.2.2.2.1
theorem dX5_addThing_75 : decode cX5_addThing 75 = .ok (.if_icmp .gt 7, 3) := dgX5_addThing_66.2.2.2.2.2.1
theorem dX5_addThing_78 : decode cX5_addThing 78 = .ok (.iconst 1, 1) := dgX5_addThing_66.2.2.2.2.2.2.1
theorem dX5_addThing_79 : decode cX5_addThing 79 = .ok (.goto 4, 3) := dgX5_addThing_66.2.2.2.2.2.2.2.1
theorem dX5_addThing_82 : decode cX5_addThing 82 = .ok (.iconst 0, 1) := dgX5_addThing_66.2.2.2.2.2.2.2.2.1
theorem dX5_addThing_83 : decode cX5_addThing 83 = .ok (.istore 10, 2) := dgX5_addThing_66.2.2.2.2.2.2.2.2.2.1
theorem dX5_addThing_85 : decode cX5_addThing 85 = .ok (.iload_n 1, 1) := dgX5_addThing_66.2.2.2.2.2.2.2.2.2.2.1
theorem dX5_addThing_86 : decode cX5_addThing 86 = .ok (.invokestatic 60, 3) := dgX5_addThing_66.2.2.2.2.2.2.2.2.2.2.2.1
theorem dgX5_addThing_89 : (decode cX5_addThing 89 = .ok (.ifCond .eq 13, 3)) ∧ (decode cX5_addThing 92 = .ok (.iload 9, 2)) ∧ (decode cX5_addThing 94 = .ok (.ifCond .eq 8, 3)) ∧ (decode cX5_addThing 97 = .ok (.iload 10, 2)) ∧ (decode cX5_addThing 99 = .ok (.ifCond .ne 5, 3)) ∧ True := dkW [(89, .ifCond .eq 13, 3), (92, .iload 9, 2), (94, .ifCond .eq 8, 3), (97, .iload 10, 2), (99, .ifCond .ne 5, 3)] 89 (by decide +kernel)
theorem dX5_addThing_89 : decode cX5_addThing 89 = .ok (.ifCond .eq 13, 3) := dgX5_addThing_89.1
theorem dX5_addThing_92 : decode cX5_addThing 92 = .ok (.iload 9, 2) := dgX5_addThing_89.2.1
theorem dX5_addThing_94 : decode cX5_addThing 94 = .ok (.ifCond .eq 8, 3) := dgX5_addThing_89.2.2.1
theorem dX5_addThing_97 : decode cX5_addThing 97 = .ok (.iload 10, 2) := dgX5_addThing_89.2.2.2.1
theorem dX5_addThing_99 : decode cX5_addThing 99 = .ok (.ifCond .ne 5, 3) := dgX5_addThing_89.2.2.2.2.1
theorem dX5_addThing_102 : decode cX5_addThing 102 = .ok (.iconst (-1), 1) := by decide +kernel
theorem dgX5_addThing_103 : (decode cX5_addThing 103 = .ok (.ireturn, 1)) ∧ (decode cX5_addThing 104 = .ok (.aload_n 0, 1)) ∧ (decode cX5_addThing 105 = .ok (.aconst_null, 1)) ∧ (decode cX5_addThing 106 = .ok (.iload 5, 2)) ∧ (decode cX5_addThing 108 = .ok (.iload 6, 2)) ∧ (decode cX5_addThing 110 = .ok (.iload_n 2, 1)) ∧ (decode cX5_addThing 111 = .ok (.invokevirtual 64, 3)) ∧ (decode cX5_addThing 114 = .ok (.ifCond .ne 6, 3)) ∧ (decode cX5_addThing 117 = .ok (.bipush (-2), 2)) ∧ (decode cX5_addThing 119 = .ok (.ireturn, 1)) ∧ (decode cX5_addThing 120 = .ok (.aload_n 0, 1)) ∧ (decode cX5_addThing 121 = .ok (.getfield 47, 3)) ∧ True := dkW [(103, .ireturn, 1), (104, .aload_n 0, 1), (105, .aconst_null, 1), (106, .iload 5, 2), (108, .iload 6, 2), (110, .iload_n 2, 1), (111, .invokevirtual 64, 3), (114, .ifCond .ne 6, 3), (117, .bipush (-2), 2), (119, .ireturn, 1), (120, .aload_n 0, 1), (121, .getfield 47, 3)] 103 (by decide +kernel)
theorem dX5_addThing_103 : decode cX5_addThing 103 = .ok (.ireturn, 1) := dgX5_addThing_103.1
theorem dX5_addThing_104 : decode cX5_addThing 104 = .ok (.aload_n 0, 1) := dgX5_addThing_103.2.1
theorem dX5_addThing_105 : decode cX5_addThing 105 = .ok (.aconst_null, 1) := dgX5_addThing_103.2.2.1
theorem dX5_addThing_106 : decode cX5_addThing 106 = .ok (.iload 5, 2) := dgX5_addThing_103.2.2.2.1
theorem dX5_addThing_108 : decode cX5_addThing 108 = .ok (.iload 6, 2) := dgX5_addThing_103.2.2.2.2.1
theorem dX5_addThing_110 : decode cX5_addThing 110 = .ok (.iload_n 2, 1) := dgX5_addThing_103.2.2.2.2.2.1
theorem dX5_addThing_111 : decode cX5_addThing 111 = .ok (.invokevirtual 64, 3) := dgX5_addThing_103.2.2.2.2.2.2.1
theorem dX5_addThing_114 : decode cX5_addThing 114 = .ok (.ifCond .ne 6, 3) := dgX5_addThing_103.2.2.2.2.2.2.2.1
theorem dX5_addThing_117 : decode cX5_addThing 117 = .ok (.bipush (-2), 2) := dgX5_addThing_103.2.2.2.2.2.2.2.2.1
theorem dX5_addThing_119 : decode cX5_addThing 119 = .ok (.ireturn, 1) := dgX5_addThing_103.2.2.2.2.2.2.2.2.2.1
theorem dX5_addThing_120 : decode cX5_addThing 120 = .ok (.aload_n 0, 1) := dgX5_addThing_103.2.2.2.2.2.2.2.2.2.2.1
theorem dX5_addThing_121 : decode cX5_addThing 121 = .ok (.getfield 47, 3) := dgX5_addThing_103.2.2.2.2.2.2.2.2.2.2.2.1
theorem dgX5_addThing_124 : (decode cX5_addThing 124 = .ok (.bipush 40, 2)) ∧ (decode cX5_addThing 126 = .ok (.if_icmp .lt 6, 3)) ∧ (decode cX5_addThing 129 = .ok (.bipush (-3), 2)) ∧ (decode cX5_addThing 131 = .ok (.ireturn, 1)) ∧ (decode cX5_addThing 132 = .ok (.aload_n 0, 1)) ∧ (decode cX5_addThing 133 = .ok (.getfield 11, 3)) ∧ (decode cX5_addThing 136 = .ok (.aload_n 0, 1)) ∧ (decode cX5_addThing 137 = .ok (.getfield 47, 3)) ∧ (decode cX5_addThing 140 = .ok (.new 9, 3)) ∧ (decode cX5_addThing 143 = .ok (.dup, 1)) ∧ (decode cX5_addThing 144 = .ok (.aload_n 0, 1)) ∧ (decode cX5_addThing 145 = .ok (.getfield 47, 3)) ∧ True := dkW [(124, .bipush 40, 2), (126, .if_icmp .lt 6, 3), (129, .bipush (-3), 2), (131, .ireturn, 1), (132, .aload_n 0, 1), (133, .getfield 11, 3), (136, .aload_n 0, 1), (137, .getfield 47, 3), (140, .new 9, 3), (143, .dup, 1), (144, .aload_n 0, 1), (145, .getfield 47, 3)] 124 (by decide +kernel)
theorem dX5_addThing_124 : decode cX5_addThing 124 = .ok (.bipush 40, 2) := dgX5_addThing_124.1
theorem dX5_addThing_126 : decode cX5_addThing 126 = .ok (.if_icmp .lt 6, 3) := dgX5_addThing_124.2.1
theorem dX5_addThing_129 : decode cX5_addThing 129 = .ok (.bipush (-3), 2) := dgX5_addThing_124.2.2.1
theorem dX5_addThing_131 : decode cX5_addThing 131 = .ok (.ireturn, 1) := dgX5_addThing_124.2.2.2.1
theorem dX5_addThing_132 : decode cX5_addThing 132 = .ok (.aload_n 0, 1) := dgX5_addThing_124.2.2.2.2.1
theorem dX5_addThing_133 : decode cX5_addThing 133 = .ok (.getfield 11, 3) := dgX5_addThing_124.2.2.2.2.2.1
theorem dX5_addThing_136 : decode cX5_addThing 136 = .ok (.aload_n 0, 1) := dgX5_addThing_124.2.2.2.2.2.2.1
theorem dX5_addThing_137 : decode cX5_addThing 137 = .ok (.getfield 47, 3) := dgX5_addThing_124.2.2.2.2.2.2.2.1
theorem dX5_addThing_140 : decode cX5_addThing 140 = .ok (.new 9, 3) := dgX5_addThing_124.2.2.2.2.2.2.2.2.1
theorem dX5_addThing_143 : decode cX5_addThing 143 = .ok (.dup, 1) := dgX5_addThing_124.2.2.2.2.2.2.2.2.2.1
theorem dX5_addThing_144 : decode cX5_addThing 144 = .ok (.aload_n 0, 1) := dgX5_addThing_124.2.2.2.2.2.2.2.2.2.2.1
theorem dX5_addThing_145 : decode cX5_addThing 145 = .ok (.getfield 47, 3) := dgX5_addThing_124.2.2.2.2.2.2.2.2.2.2.2.1
theorem dgX5_addThing_148 : (decode cX5_addThing 148 = .ok (.iload 5, 2)) ∧ (decode cX5_addThing 150 = .ok (.iload 6, 2)) ∧ (decode cX5_addThing 152 = .ok (.iload_n 2, 1)) ∧ (decode cX5_addThing 153 = .ok (.iload 7, 2)) ∧ (decode cX5_addThing 155 = .ok (.iload 8, 2)) ∧ (decode cX5_addThing 157 = .ok (.iload 4, 2)) ∧ (decode cX5_addThing 159 = .ok (.invokespecial 68, 3)) ∧ (decode cX5_addThing 162 = .ok (.aastore, 1)) ∧ (decode cX5_addThing 163 = .ok (.aload_n 0, 1)) ∧ (decode cX5_addThing 164 = .ok (.dup, 1)) ∧ (decode cX5_addThing 165 = .ok (.getfield 47, 3)) ∧ (decode cX5_addThing 168 = .ok (.dup_x1, 1)) ∧ True := dkW [(148, .iload 5, 2), (150, .iload 6, 2), (152, .iload_n 2, 1), (153, .iload 7, 2), (155, .iload 8, 2), (157, .iload 4, 2), (159, .invokespecial 68, 3), (162, .aastore, 1), (163, .aload_n 0, 1), (164, .dup, 1), (165, .getfield 47, 3), (168, .dup_x1, 1)] 148 (by decide +kernel)
theorem dX5_addThing_148 : decode cX5_addThing 148 = .ok (.iload 5, 2) := dgX5_addThing_148.1
theorem dX5_addThing_150 : decode cX5_addThing 150 = .ok (.iload 6, 2) := dgX5_addThing_148.2.1
theorem dX5_addThing_152 : decode cX5_addThing 152 = .ok (.iload_n 2, 1) := dgX5_addThing_148.2.2.1
theorem dX5_addThing_153 : decode cX5_addThing 153 = .ok (.iload 7, 2) := dgX5_addThing_148.2.2.2.1
theorem dX5_addThing_155 : decode cX5_addThing 155 = .ok (.iload 8, 2) := dgX5_addThing_148.2.2.2.2.1
theorem dX5_addThing_157 : decode cX5_addThing 157 = .ok (.iload 4, 2) := dgX5_addThing_148.2.2.2.2.2.1
theorem dX5_addThing_159 : decode cX5_addThing 159 = .ok (.invokespecial 68, 3) := dgX5_addThing_148.2.2.2.2.2.2.1
theorem dX5_addThing_162 : decode cX5_addThing 162 = .ok (.aastore, 1) := dgX5_addThing_148.2.2.2.2.2.2.2.1
theorem dX5_addThing_163 : decode cX5_addThing 163 = .ok (.aload_n 0, 1) := dgX5_addThing_148.2.2.2.2.2.2.2.2.1
theorem dX5_addThing_164 : decode cX5_addThing 164 = .ok (.dup, 1) := dgX5_addThing_148.2.2.2.2.2.2.2.2.2.1
theorem dX5_addThing_165 : decode cX5_addThing 165 = .ok (.getfield 47, 3) := dgX5_addThing_148.2.2.2.2.2.2.2.2.2.2.1
theorem dX5_addThing_168 : decode cX5_addThing 168 = .ok (.dup_x1, 1) := dgX5_addThing_148.2.2.2.2.2.2.2.2.2.2.2.1
theorem dgX5_addThing_169 : (decode cX5_addThing 169 = .ok (.iconst 1, 1)) ∧ (decode cX5_addThing 170 = .ok (.iadd, 1)) ∧ (decode cX5_addThing 171 = .ok (.putfield 47, 3)) ∧ (decode cX5_addThing 174 = .ok (.ireturn, 1)) ∧ True := dkW [(169, .iconst 1, 1), (170, .iadd, 1), (171, .putfield 47, 3), (174, .ireturn, 1)] 169 (by decide +kernel)
theorem dX5_addThing_169 : decode cX5_addThing 169 = .ok (.iconst 1, 1) := dgX5_addThing_169.1
theorem dX5_addThing_170 : decode cX5_addThing 170 = .ok (.iadd, 1) := dgX5_addThing_169.2.1
theorem dX5_addThing_171 : decode cX5_addThing 171 = .ok (.putfield 47, 3) := dgX5_addThing_169.2.2.1
theorem dX5_addThing_174 : decode cX5_addThing 174 = .ok (.ireturn, 1) := dgX5_addThing_169.2.2.2.1
abbrev rmX5_addThing : Room := { frames := 2, cells := 2, slots := 22, locals := 50 }
noncomputable def fX5_addThing_b102 (N : Nat)  (t : Nat) (h : Hs)  : Option (Int32 × Hs) :=
  some ((-1), h)
set_option maxHeartbeats 4000000 in
set_option maxRecDepth 20000 in
theorem wX5_addThing_b102 {p : Program} {l : Launch} {e : Env} {s : State} {m : MethodId} {args : Array Value} {below : List Frame} {meth : Method} {c : Code} {G : Gl} {N : Nat} {h : Hs} {r : Int32 × Hs}  {t : Nat}  (C : Cx p s m args meth c cX5_addThing RX5 11 G) (hret : meth.sig.returnType = (some .int))  (hf : fX5_addThing_b102 N  t h  = some r) : V p l e rmX5_addThing s m args below meth c G 11 (MQ below (QcG G (some (.inl r.1)) r.2) args s rmX5_addThing.cells rmX5_addThing.slots (AG G)) h 0 0 102 [some (.inr (some t)), none, none, none, none, none, none, none, none, none, none] [] := by
  unfold fX5_addThing_b102 at hf
  refine r_iconst (v := -1) C dX5_addThing_102 (by decide) ?_
  exact r_iretF C dX5_addThing_103 hret hf (by decide) (by decide)
noncomputable def fX5_addThing_b83 (N : Nat)  (t : Nat) (h : Hs) (x1 : Int32) (x2 : Int32) (x4 : Int32) (x5 : Int32) (x6 : Int32) (x7 : Int32) (x8 : Int32) (x9 : Int32) (u0 : Int32) : Option (Int32 × Hs) :=
  (fX5_isStagePlace N h x1).bind fun r1 =>
  if r1.1 = 0 then (
  fX5_addThing_b102 N t r1.2)
  else if x9 = 0 then (
  fX5_addThing_b102 N t r1.2)
  else if u0 = 0 then (
  fX5_addThing_b102 N t r1.2)
  else (rc 5 r1.2 (some t)).bind fun a3 =>
  (fX5_isClear N r1.2 a3 none x5 x6 x2).bind fun r2 =>
  if r2.1 = 0 then (
  some ((-2), r2.2))
  else (oI 5 7 r2.2 (some t)).bind fun v4 =>
  if v4 < 40 then (
  (oR 5 0 r2.2 (some t)).bind fun o5 =>
  (oI 5 7 r2.2 (some t)).bind fun v6 =>
  (some (nw r2.2 (9, 0))).bind fun h7 =>
  (oI 5 7 h7 (some t)).bind fun v8 =>
  (fX9_init N h7 (sz r2.2) v8 x5 x6 x2 x7 x8 x4).bind fun r9 =>
  (sQ 23 9 r9 o5 v6 (some (sz r2.2))).bind fun h10 =>
  (oI 5 7 h10 (some t)).bind fun v11 =>
  (qI 5 7 h10 (some t) (v11 + 1)).bind fun h12 =>
  some (v11, h12))
  else some ((-3), r2.2)
set_option maxHeartbeats 4000000 in
set_option maxRecDepth 20000 in
theorem wX5_addThing_b83 {p : Program} {l : Launch} {e : Env} {s : State} {m : MethodId} {args : Array Value} {below : List Frame} {meth : Method} {c : Code} {G : Gl} {N : Nat} {h : Hs} {r : Int32 × Hs}  {t : Nat} {x1 : Int32} {x2 : Int32} {x4 : Int32} {x5 : Int32} {x6 : Int32} {x7 : Int32} {x8 : Int32} {x9 : Int32} {u0 : Int32} (C : Cx p s m args meth c cX5_addThing RX5 11 G) (hret : meth.sig.returnType = (some .int))  (hf : fX5_addThing_b83 N  t h x1 x2 x4 x5 x6 x7 x8 x9 u0 = some r) : V p l e rmX5_addThing s m args below meth c G 11 (MQ below (QcG G (some (.inl r.1)) r.2) args s rmX5_addThing.cells rmX5_addThing.slots (AG G)) h 0 0 83 [some (.inr (some t)), some (.inl x1), some (.inl x2), none, some (.inl x4), some (.inl x5), some (.inl x6), some (.inl x7), some (.inl x8), some (.inl x9), none] [.inl u0] := by
  unfold fX5_addThing_b83 at hf
  refine r_istore C dX5_addThing_83 (by decide) ?_
  refine r_iload_n C dX5_addThing_85 rfl ?_
  obtain ⟨r1, er1, hf⟩ := bS hf
  refine r_invS1 (As := [.inl x1]) C dX5_addThing_86 mcX5_isStagePlace wd_293 wd_294 ⟨by decide, by decide⟩ ⟨by decide, by decide⟩ rfl (Nat.le_of_ble_eq_true rfl) (kX5_isStagePlace l G er1) ?_
  refine r_if_eq (tgt := 102) C dX5_addThing_89 (by decide) (fun hc => ?_) (fun hc => ?_)
  · have hf := ifT hf hc
    exact V.sub (wX5_addThing_b102 C hret hf) (LW_s rfl (LW_n (LW_n (LW_n (LW_n (LW_n (LW_n (LW_n (LW_n (LW_n (LW_n (LW_e))))))))))))
  · have hf := ifF hf hc
    refine r_iload C dX5_addThing_92 rfl ?_
    refine r_if_eq (tgt := 102) C dX5_addThing_94 (by decide) (fun hc => ?_) (fun hc => ?_)
    · have hf := ifT hf hc
      exact V.sub (wX5_addThing_b102 C hret hf) (LW_s rfl (LW_n (LW_n (LW_n (LW_n (LW_n (LW_n (LW_n (LW_n (LW_n (LW_n (LW_e))))))))))))
    · have hf := ifF hf hc
      refine r_iload C dX5_addThing_97 rfl ?_
      refine r_if_ne (tgt := 104) C dX5_addThing_99 (by decide) (fun hc => ?_) (fun hc => ?_)
      · have hf := ifF hf hc
        refine r_aload_n C dX5_addThing_104 rfl ?_
        refine r_null C dX5_addThing_105 ?_
        refine r_iload C dX5_addThing_106 rfl ?_
        refine r_iload C dX5_addThing_108 rfl ?_
        refine r_iload_n C dX5_addThing_110 rfl ?_
        obtain ⟨a3, ea3, hf⟩ := bS hf
        obtain ⟨r2, er2, hf⟩ := bS hf
        refine r_invV1 (As := [.inr none, .inl x5, .inl x6, .inl x2]) (ci := 5) C dX5_addThing_111 mcX5_isClear wd_296 wd_297 wd_298 rfl rfl (by decide) ⟨by decide, by decide⟩ ⟨by decide, by decide⟩ rfl (Nat.le_of_ble_eq_true rfl) ea3 (kX5_isClear l G er2) ?_
        refine r_if_ne (tgt := 120) C dX5_addThing_114 (by decide) (fun hc => ?_) (fun hc => ?_)
        · have hf := ifF hf hc
          refine r_aload_n C dX5_addThing_120 rfl ?_
          obtain ⟨v4, ev4, hf⟩ := bS hf
          refine r_getI C dX5_addThing_121 fl_X5_47 rfl ev4 ?_
          refine r_bipush (v := 40) C dX5_addThing_124 (by decide) ?_
          refine r_icmp_lt (tgt := 132) C dX5_addThing_126 (by decide) (fun hc => ?_) (fun hc => ?_)
          · have hf := ifT hf hc
            refine r_aload_n C dX5_addThing_132 rfl ?_
            obtain ⟨o5, eo5, hf⟩ := bS hf
            refine r_getR C dX5_addThing_133 fl_X5_11 rfl eo5 ?_
            refine r_aload_n C dX5_addThing_136 rfl ?_
            obtain ⟨v6, ev6, hf⟩ := bS hf
            refine r_getI C dX5_addThing_137 fl_X5_47 rfl ev6 ?_
            obtain ⟨h7, eh7, hf⟩ := bS hf
            cases eh7
            refine r_new C dX5_addThing_140 fc_9 wd_121 wd_303 wd_10 (by decide) (by decide) (by decide) ?_
            refine r_dup C dX5_addThing_143 ?_
            refine r_aload_n C dX5_addThing_144 rfl ?_
            obtain ⟨v8, ev8, hf⟩ := bS hf
            refine r_getI C dX5_addThing_145 fl_X5_47 rfl ev8 ?_
            refine r_iload C dX5_addThing_148 rfl ?_
            refine r_iload C dX5_addThing_150 rfl ?_
            refine r_iload_n C dX5_addThing_152 rfl ?_
            refine r_iload C dX5_addThing_153 rfl ?_
            refine r_iload C dX5_addThing_155 rfl ?_
            refine r_iload C dX5_addThing_157 rfl ?_
            obtain ⟨r9, er9, hf⟩ := bS hf
            refine r_invI0 (As := [.inl v8, .inl x5, .inl x6, .inl x2, .inl x7, .inl x8, .inl x4]) C dX5_addThing_159 mcX9_init wd_304 wd_305 rfl ⟨by decide, by decide⟩ ⟨by decide, by decide⟩ rfl (Nat.le_of_ble_eq_true rfl) (kX9_init l G er9) ?_
            obtain ⟨h10, eh10, hf⟩ := bS hf
            refine r_qast (t := 3) (ci := 9) C dX5_addThing_162 (by decide) (by decide) (by decide) rfl rfl eh10 ?_
            refine r_aload_n C dX5_addThing_163 rfl ?_
            refine r_dup C dX5_addThing_164 ?_
            obtain ⟨v11, ev11, hf⟩ := bS hf
            refine r_getI C dX5_addThing_165 fl_X5_47 rfl ev11 ?_
            refine r_dup_x1 C dX5_addThing_168 ?_
            refine r_iconst (v := 1) C dX5_addThing_169 (by decide) ?_
            refine r_iadd C dX5_addThing_170 ?_
            obtain ⟨h12, eh12, hf⟩ := bS hf
            refine r_putI C dX5_addThing_171 fl_X5_47 (Or.inl fn_5_7) rfl eh12 ?_
            exact r_iretF C dX5_addThing_174 hret hf (by decide) (by decide)
          · have hf := ifF hf hc
            refine r_bipush (v := -3) C dX5_addThing_129 (by decide) ?_
            exact r_iretF C dX5_addThing_131 hret hf (by decide) (by decide)
        · have hf := ifT hf hc
          refine r_bipush (v := -2) C dX5_addThing_117 (by decide) ?_
          exact r_iretF C dX5_addThing_119 hret hf (by decide) (by decide)
      · have hf := ifT hf hc
        exact V.sub (wX5_addThing_b102 C hret hf) (LW_s rfl (LW_n (LW_n (LW_n (LW_n (LW_n (LW_n (LW_n (LW_n (LW_n (LW_n (LW_e))))))))))))
noncomputable def fX5_addThing_b82 (N : Nat)  (t : Nat) (h : Hs) (x1 : Int32) (x2 : Int32) (x4 : Int32) (x5 : Int32) (x6 : Int32) (x7 : Int32) (x8 : Int32) (x9 : Int32) : Option (Int32 × Hs) :=
  fX5_addThing_b83 N t h x1 x2 x4 x5 x6 x7 x8 x9 0
set_option maxHeartbeats 4000000 in
set_option maxRecDepth 20000 in
theorem wX5_addThing_b82 {p : Program} {l : Launch} {e : Env} {s : State} {m : MethodId} {args : Array Value} {below : List Frame} {meth : Method} {c : Code} {G : Gl} {N : Nat} {h : Hs} {r : Int32 × Hs}  {t : Nat} {x1 : Int32} {x2 : Int32} {x4 : Int32} {x5 : Int32} {x6 : Int32} {x7 : Int32} {x8 : Int32} {x9 : Int32} (C : Cx p s m args meth c cX5_addThing RX5 11 G) (hret : meth.sig.returnType = (some .int))  (hf : fX5_addThing_b82 N  t h x1 x2 x4 x5 x6 x7 x8 x9 = some r) : V p l e rmX5_addThing s m args below meth c G 11 (MQ below (QcG G (some (.inl r.1)) r.2) args s rmX5_addThing.cells rmX5_addThing.slots (AG G)) h 0 0 82 [some (.inr (some t)), some (.inl x1), some (.inl x2), none, some (.inl x4), some (.inl x5), some (.inl x6), some (.inl x7), some (.inl x8), some (.inl x9), none] [] := by
  unfold fX5_addThing_b82 at hf
  refine r_iconst (v := 0) C dX5_addThing_82 (by decide) ?_
  exact V.sub (wX5_addThing_b83 C hret hf) (LW_s rfl (LW_s rfl (LW_s rfl (LW_n (LW_s rfl (LW_s rfl (LW_s rfl (LW_s rfl (LW_s rfl (LW_s rfl (LW_n (LW_e))))))))))))
noncomputable def fX5_addThing_b51 (N : Nat)  (t : Nat) (h : Hs) (x1 : Int32) (x2 : Int32) (x3 : Int32) (x4 : Int32) (x5 : Int32) (x6 : Int32) (x7 : Int32) (x8 : Int32) (u0 : Int32) : Option (Int32 × Hs) :=
  (fX11_isWithin N h x6 x7 x8).bind fun r1 =>
  if r1.1 = 0 then (
  fX5_addThing_b82 N t r1.2 x1 x2 x4 x5 x6 x7 x8 u0)
  else if x3 < 0 then (
  fX5_addThing_b82 N t r1.2 x1 x2 x4 x5 x6 x7 x8 u0)
  else if 100 < (x8 + x2) then (
  fX5_addThing_b82 N t r1.2 x1 x2 x4 x5 x6 x7 x8 u0)
  else fX5_addThing_b83 N t r1.2 x1 x2 x4 x5 x6 x7 x8 u0 1
set_option maxHeartbeats 4000000 in
set_option maxRecDepth 20000 in
theorem wX5_addThing_b51 {p : Program} {l : Launch} {e : Env} {s : State} {m : MethodId} {args : Array Value} {below : List Frame} {meth : Method} {c : Code} {G : Gl} {N : Nat} {h : Hs} {r : Int32 × Hs}  {t : Nat} {x1 : Int32} {x2 : Int32} {x3 : Int32} {x4 : Int32} {x5 : Int32} {x6 : Int32} {x7 : Int32} {x8 : Int32} {u0 : Int32} (C : Cx p s m args meth c cX5_addThing RX5 11 G) (hret : meth.sig.returnType = (some .int))  (hf : fX5_addThing_b51 N  t h x1 x2 x3 x4 x5 x6 x7 x8 u0 = some r) : V p l e rmX5_addThing s m args below meth c G 11 (MQ below (QcG G (some (.inl r.1)) r.2) args s rmX5_addThing.cells rmX5_addThing.slots (AG G)) h 0 0 51 [some (.inr (some t)), some (.inl x1), some (.inl x2), some (.inl x3), some (.inl x4), some (.inl x5), some (.inl x6), some (.inl x7), some (.inl x8), none, none] [.inl u0] := by
  unfold fX5_addThing_b51 at hf
  refine r_istore C dX5_addThing_51 (by decide) ?_
  refine r_iload C dX5_addThing_53 rfl ?_
  refine r_iload C dX5_addThing_55 rfl ?_
  refine r_iload C dX5_addThing_57 rfl ?_
  obtain ⟨r1, er1, hf⟩ := bS hf
  refine r_invSN1 (As := [.inl x6, .inl x7, .inl x8]) (host := "StageMachine") C dX5_addThing_59 mcX11_isWithin (by decide) wd_291 ⟨by decide, by decide⟩ ⟨by decide, by decide⟩ rfl (Nat.le_of_ble_eq_true rfl) (kX11_isWithin l G er1) ?_
  refine r_if_eq (tgt := 82) C dX5_addThing_62 (by decide) (fun hc => ?_) (fun hc => ?_)
  · have hf := ifT hf hc
    exact V.sub (wX5_addThing_b82 C hret hf) (LW_s rfl (LW_s rfl (LW_s rfl (LW_n (LW_s rfl (LW_s rfl (LW_s rfl (LW_s rfl (LW_s rfl (LW_s rfl (LW_n (LW_e))))))))))))
  · have hf := ifF hf hc
    refine r_iload_n C dX5_addThing_65 rfl ?_
    refine r_if_lt (tgt := 82) C dX5_addThing_66 (by decide) (fun hc => ?_) (fun hc => ?_)
    · have hf := ifT hf hc
      exact V.sub (wX5_addThing_b82 C hret hf) (LW_s rfl (LW_s rfl (LW_s rfl (LW_n (LW_s rfl (LW_s rfl (LW_s rfl (LW_s rfl (LW_s rfl (LW_s rfl (LW_n (LW_e))))))))))))
    · have hf := ifF hf hc
      refine r_iload C dX5_addThing_69 rfl ?_
      refine r_iload_n C dX5_addThing_71 rfl ?_
      refine r_iadd C dX5_addThing_72 ?_
      refine r_bipush (v := 100) C dX5_addThing_73 (by decide) ?_
      refine r_icmp_gt (tgt := 82) C dX5_addThing_75 (by decide) (fun hc => ?_) (fun hc => ?_)
      · have hf := ifT hf hc
        exact V.sub (wX5_addThing_b82 C hret hf) (LW_s rfl (LW_s rfl (LW_s rfl (LW_n (LW_s rfl (LW_s rfl (LW_s rfl (LW_s rfl (LW_s rfl (LW_s rfl (LW_n (LW_e))))))))))))
      · have hf := ifF hf hc
        refine r_iconst (v := 1) C dX5_addThing_78 (by decide) ?_
        refine r_goto (tgt := 83) C dX5_addThing_79 (by decide) ?_
        exact V.sub (wX5_addThing_b83 C hret hf) (LW_s rfl (LW_s rfl (LW_s rfl (LW_n (LW_s rfl (LW_s rfl (LW_s rfl (LW_s rfl (LW_s rfl (LW_s rfl (LW_n (LW_e))))))))))))
noncomputable def fX5_addThing_b50 (N : Nat)  (t : Nat) (h : Hs) (x1 : Int32) (x2 : Int32) (x3 : Int32) (x4 : Int32) (x5 : Int32) (x6 : Int32) (x7 : Int32) (x8 : Int32) : Option (Int32 × Hs) :=
  fX5_addThing_b51 N t h x1 x2 x3 x4 x5 x6 x7 x8 0
set_option maxHeartbeats 4000000 in
set_option maxRecDepth 20000 in
theorem wX5_addThing_b50 {p : Program} {l : Launch} {e : Env} {s : State} {m : MethodId} {args : Array Value} {below : List Frame} {meth : Method} {c : Code} {G : Gl} {N : Nat} {h : Hs} {r : Int32 × Hs}  {t : Nat} {x1 : Int32} {x2 : Int32} {x3 : Int32} {x4 : Int32} {x5 : Int32} {x6 : Int32} {x7 : Int32} {x8 : Int32} (C : Cx p s m args meth c cX5_addThing RX5 11 G) (hret : meth.sig.returnType = (some .int))  (hf : fX5_addThing_b50 N  t h x1 x2 x3 x4 x5 x6 x7 x8 = some r) : V p l e rmX5_addThing s m args below meth c G 11 (MQ below (QcG G (some (.inl r.1)) r.2) args s rmX5_addThing.cells rmX5_addThing.slots (AG G)) h 0 0 50 [some (.inr (some t)), some (.inl x1), some (.inl x2), some (.inl x3), some (.inl x4), some (.inl x5), some (.inl x6), some (.inl x7), some (.inl x8), none, none] [] := by
  unfold fX5_addThing_b50 at hf
  refine r_iconst (v := 0) C dX5_addThing_50 (by decide) ?_
  exact V.sub (wX5_addThing_b51 C hret hf) (LW_s rfl (LW_s rfl (LW_s rfl (LW_s rfl (LW_s rfl (LW_s rfl (LW_s rfl (LW_s rfl (LW_s rfl (LW_n (LW_n (LW_e))))))))))))
noncomputable def fX5_addThing (N : Nat) (h : Hs) (t : Nat) (p1 : Int32) (p2 : Int32) (p3 : Int32) (p4 : Int32) : Option (Int32 × Hs) :=
  (some (p1 / 100)).bind fun y1 =>
  (some (p1 - p1 / 100 * 100)).bind fun y2 =>
  (some (p3 / 100)).bind fun y3 =>
  (some (p3 - p3 / 100 * 100)).bind fun y4 =>
  (fX11_isWithin N h p2 1 60).bind fun r5 =>
  if r5.1 = 0 then (
  fX5_addThing_b50 N t r5.2 p1 p2 p3 p4 y1 y2 y3 y4)
  else (fX11_isWithin N r5.2 p4 0 999).bind fun r6 =>
  if r6.1 = 0 then (
  fX5_addThing_b50 N t r6.2 p1 p2 p3 p4 y1 y2 y3 y4)
  else fX5_addThing_b51 N t r6.2 p1 p2 p3 p4 y1 y2 y3 y4 1
set_option maxHeartbeats 4000000 in
set_option maxRecDepth 20000 in
theorem kX5_addThing (l : Launch) (G : Gl) {N : Nat} {h : Hs} {t : Nat} {p1 : Int32} {p2 : Int32} {p3 : Int32} {p4 : Int32} {r : Int32 × Hs} (hf : fX5_addThing N h t p1 p2 p3 p4 = some r) : CT l G yX5_addThing cX5_addThing 11 (some .int) rmX5_addThing [.inr (some t), .inl p1, .inl p2, .inl p3, .inl p4] h (some (.inl r.1)) r.2 := by
  refine mk_CT (by decide) (Nat.le_of_ble_eq_true rfl) ?_
  intro p e s m args below meth c C hret hin
  unfold fX5_addThing at hf
  refine r_iload_n C dX5_addThing_0 rfl ?_
  refine r_bipush (v := 100) C dX5_addThing_1 (by decide) ?_
  refine r_idivK C dX5_addThing_3 (by decide) ?_
  obtain ⟨y1, ey1, hf⟩ := bS hf
  refine r_istoreE C dX5_addThing_4 (by decide) ey1 ?_
  refine r_iload_n C dX5_addThing_6 rfl ?_
  refine r_bipush (v := 100) C dX5_addThing_7 (by decide) ?_
  refine r_iremK C dX5_addThing_9 (by decide) ?_
  obtain ⟨y2, ey2, hf⟩ := bS hf
  refine r_istoreE C dX5_addThing_10 (by decide) ey2 ?_
  refine r_iload_n C dX5_addThing_12 rfl ?_
  refine r_bipush (v := 100) C dX5_addThing_13 (by decide) ?_
  refine r_idivK C dX5_addThing_15 (by decide) ?_
  obtain ⟨y3, ey3, hf⟩ := bS hf
  refine r_istoreE C dX5_addThing_16 (by decide) ey3 ?_
  refine r_iload_n C dX5_addThing_18 rfl ?_
  refine r_bipush (v := 100) C dX5_addThing_19 (by decide) ?_
  refine r_iremK C dX5_addThing_21 (by decide) ?_
  obtain ⟨y4, ey4, hf⟩ := bS hf
  refine r_istoreE C dX5_addThing_22 (by decide) ey4 ?_
  refine r_iload_n C dX5_addThing_24 rfl ?_
  refine r_iconst (v := 1) C dX5_addThing_25 (by decide) ?_
  refine r_bipush (v := 60) C dX5_addThing_26 (by decide) ?_
  obtain ⟨r5, er5, hf⟩ := bS hf
  refine r_invSN1 (As := [.inl p2, .inl 1, .inl 60]) (host := "StageMachine") C dX5_addThing_28 mcX11_isWithin (by decide) wd_291 ⟨by decide, by decide⟩ ⟨by decide, by decide⟩ rfl (Nat.le_of_ble_eq_true rfl) (kX11_isWithin l G er5) ?_
  refine r_if_eq (tgt := 50) C dX5_addThing_31 (by decide) (fun hc => ?_) (fun hc => ?_)
  · have hf := ifT hf hc
    exact V.sub (wX5_addThing_b50 C hret hf) (LW_s rfl (LW_s rfl (LW_s rfl (LW_s rfl (LW_s rfl (LW_s rfl (LW_s rfl (LW_s rfl (LW_s rfl (LW_n (LW_n (LW_e))))))))))))
  · have hf := ifF hf hc
    refine r_iload C dX5_addThing_34 rfl ?_
    refine r_iconst (v := 0) C dX5_addThing_36 (by decide) ?_
    refine r_sipush (v := 999) C dX5_addThing_37 (by decide) ?_
    obtain ⟨r6, er6, hf⟩ := bS hf
    refine r_invSN1 (As := [.inl p4, .inl 0, .inl 999]) (host := "StageMachine") C dX5_addThing_40 mcX11_isWithin (by decide) wd_291 ⟨by decide, by decide⟩ ⟨by decide, by decide⟩ rfl (Nat.le_of_ble_eq_true rfl) (kX11_isWithin l G er6) ?_
    refine r_if_eq (tgt := 50) C dX5_addThing_43 (by decide) (fun hc => ?_) (fun hc => ?_)
    · have hf := ifT hf hc
      exact V.sub (wX5_addThing_b50 C hret hf) (LW_s rfl (LW_s rfl (LW_s rfl (LW_s rfl (LW_s rfl (LW_s rfl (LW_s rfl (LW_s rfl (LW_s rfl (LW_n (LW_n (LW_e))))))))))))
    · have hf := ifF hf hc
      refine r_iconst (v := 1) C dX5_addThing_46 (by decide) ?_
      refine r_goto (tgt := 51) C dX5_addThing_47 (by decide) ?_
      exact V.sub (wX5_addThing_b51 C hret hf) (LW_s rfl (LW_s rfl (LW_s rfl (LW_s rfl (LW_s rfl (LW_s rfl (LW_s rfl (LW_s rfl (LW_s rfl (LW_n (LW_n (LW_e))))))))))))

theorem dgX5_addDrum_0 : (decode cX5_addDrum 0 = .ok (.iload_n 1, 1)) ∧ (decode cX5_addDrum 1 = .ok (.iconst 1, 1)) ∧ (decode cX5_addDrum 2 = .ok (.bipush 20, 2)) ∧ (decode cX5_addDrum 4 = .ok (.invokestatic 50, 3)) ∧ (decode cX5_addDrum 7 = .ok (.ifCond .ne 5, 3)) ∧ True := dkW [(0, .iload_n 1, 1), (1, .iconst 1, 1), (2, .bipush 20, 2), (4, .invokestatic 50, 3), (7, .ifCond .ne 5, 3)] 0 (by decide +kernel)
theorem dX5_addDrum_0 : decode cX5_addDrum 0 = .ok (.iload_n 1, 1) := dgX5_addDrum_0.1
theorem dX5_addDrum_1 : decode cX5_addDrum 1 = .ok (.iconst 1, 1) := dgX5_addDrum_0.2.1
theorem dX5_addDrum_2 : decode cX5_addDrum 2 = .ok (.bipush 20, 2) := dgX5_addDrum_0.2.2.1
theorem dX5_addDrum_4 : decode cX5_addDrum 4 = .ok (.invokestatic 50, 3) := dgX5_addDrum_0.2.2.2.1
theorem dX5_addDrum_7 : decode cX5_addDrum 7 = .ok (.ifCond .ne 5, 3) := dgX5_addDrum_0.2.2.2.2.1
theorem dX5_addDrum_10 : decode cX5_addDrum 10 = .ok (.iconst (-1), 1) := by decide +kernel
theorem dgX5_addDrum_11 : (decode cX5_addDrum 11 = .ok (.ireturn, 1)) ∧ (decode cX5_addDrum 12 = .ok (.aload_n 0, 1)) ∧ (decode cX5_addDrum 13 = .ok (.getfield 54, 3)) ∧ (decode cX5_addDrum 16 = .ok (.bipush 20, 2)) ∧ (decode cX5_addDrum 18 = .ok (.if_icmp .lt 6, 3)) ∧ (decode cX5_addDrum 21 = .ok (.bipush (-3), 2)) ∧ (decode cX5_addDrum 23 = .ok (.ireturn, 1)) ∧ (decode cX5_addDrum 24 = .ok (.aload_n 0, 1)) ∧ (decode cX5_addDrum 25 = .ok (.getfield 19, 3)) ∧ (decode cX5_addDrum 28 = .ok (.aload_n 0, 1)) ∧ (decode cX5_addDrum 29 = .ok (.getfield 54, 3)) ∧ (decode cX5_addDrum 32 = .ok (.new 17, 3)) ∧ True := dkW [(11, .ireturn, 1), (12, .aload_n 0, 1), (13, .getfield 54, 3), (16, .bipush 20, 2), (18, .if_icmp .lt 6, 3), (21, .bipush (-3), 2), (23, .ireturn, 1), (24, .aload_n 0, 1), (25, .getfield 19, 3), (28, .aload_n 0, 1), (29, .getfield 54, 3), (32, .new 17, 3)] 11 (by decide +kernel)
theorem dX5_addDrum_11 : decode cX5_addDrum 11 = .ok (.ireturn, 1) := dgX5_addDrum_11.1
theorem dX5_addDrum_12 : decode cX5_addDrum 12 = .ok (.aload_n 0, 1) := dgX5_addDrum_11.2.1
theorem dX5_addDrum_13 : decode cX5_addDrum 13 = .ok (.getfield 54, 3) := dgX5_addDrum_11.2.2.1
theorem dX5_addDrum_16 : decode cX5_addDrum 16 = .ok (.bipush 20, 2) := dgX5_addDrum_11.2.2.2.1
theorem dX5_addDrum_18 : decode cX5_addDrum 18 = .ok (.if_icmp .lt 6, 3) := dgX5_addDrum_11.2.2.2.2.1
theorem dX5_addDrum_21 : decode cX5_addDrum 21 = .ok (.bipush (-3), 2) := dgX5_addDrum_11.2.2.2.2.2.1
theorem dX5_addDrum_23 : decode cX5_addDrum 23 = .ok (.ireturn, 1) := dgX5_addDrum_11.2.2.2.2.2.2.1
theorem dX5_addDrum_24 : decode cX5_addDrum 24 = .ok (.aload_n 0, 1) := dgX5_addDrum_11.2.2.2.2.2.2.2.1
theorem dX5_addDrum_25 : decode cX5_addDrum 25 = .ok (.getfield 19, 3) := dgX5_addDrum_11.2.2.2.2.2.2.2.2.1
theorem dX5_addDrum_28 : decode cX5_addDrum 28 = .ok (.aload_n 0, 1) := dgX5_addDrum_11.2.2.2.2.2.2.2.2.2.1
theorem dX5_addDrum_29 : decode cX5_addDrum 29 = .ok (.getfield 54, 3) := dgX5_addDrum_11.2.2.2.2.2.2.2.2.2.2.1
theorem dX5_addDrum_32 : decode cX5_addDrum 32 = .ok (.new 17, 3) := dgX5_addDrum_11.2.2.2.2.2.2.2.2.2.2.2.1
theorem dgX5_addDrum_35 : (decode cX5_addDrum 35 = .ok (.dup, 1)) ∧ (decode cX5_addDrum 36 = .ok (.aload_n 0, 1)) ∧ (decode cX5_addDrum 37 = .ok (.getfield 54, 3)) ∧ (decode cX5_addDrum 40 = .ok (.iload_n 1, 1)) ∧ (decode cX5_addDrum 41 = .ok (.invokespecial 71, 3)) ∧ (decode cX5_addDrum 44 = .ok (.aastore, 1)) ∧ (decode cX5_addDrum 45 = .ok (.aload_n 0, 1)) ∧ (decode cX5_addDrum 46 = .ok (.dup, 1)) ∧ (decode cX5_addDrum 47 = .ok (.getfield 54, 3)) ∧ (decode cX5_addDrum 50 = .ok (.dup_x1, 1)) ∧ (decode cX5_addDrum 51 = .ok (.iconst 1, 1)) ∧ (decode cX5_addDrum 52 = .ok (.iadd, 1)) ∧ True := dkW [(35, .dup, 1), (36, .aload_n 0, 1), (37, .getfield 54, 3), (40, .iload_n 1, 1), (41, .invokespecial 71, 3), (44, .aastore, 1), (45, .aload_n 0, 1), (46, .dup, 1), (47, .getfield 54, 3), (50, .dup_x1, 1), (51, .iconst 1, 1), (52, .iadd, 1)] 35 (by decide +kernel)
theorem dX5_addDrum_35 : decode cX5_addDrum 35 = .ok (.dup, 1) := dgX5_addDrum_35.1
theorem dX5_addDrum_36 : decode cX5_addDrum 36 = .ok (.aload_n 0, 1) := dgX5_addDrum_35.2.1
theorem dX5_addDrum_37 : decode cX5_addDrum 37 = .ok (.getfield 54, 3) := dgX5_addDrum_35.2.2.1
theorem dX5_addDrum_40 : decode cX5_addDrum 40 = .ok (.iload_n 1, 1) := dgX5_addDrum_35.2.2.2.1
theorem dX5_addDrum_41 : decode cX5_addDrum 41 = .ok (.invokespecial 71, 3) := dgX5_addDrum_35.2.2.2.2.1
theorem dX5_addDrum_44 : decode cX5_addDrum 44 = .ok (.aastore, 1) := dgX5_addDrum_35.2.2.2.2.2.1
theorem dX5_addDrum_45 : decode cX5_addDrum 45 = .ok (.aload_n 0, 1) := dgX5_addDrum_35.2.2.2.2.2.2.1
theorem dX5_addDrum_46 : decode cX5_addDrum 46 = .ok (.dup, 1) := dgX5_addDrum_35.2.2.2.2.2.2.2.1
theorem dX5_addDrum_47 : decode cX5_addDrum 47 = .ok (.getfield 54, 3) := dgX5_addDrum_35.2.2.2.2.2.2.2.2.1
theorem dX5_addDrum_50 : decode cX5_addDrum 50 = .ok (.dup_x1, 1) := dgX5_addDrum_35.2.2.2.2.2.2.2.2.2.1
theorem dX5_addDrum_51 : decode cX5_addDrum 51 = .ok (.iconst 1, 1) := dgX5_addDrum_35.2.2.2.2.2.2.2.2.2.2.1
theorem dX5_addDrum_52 : decode cX5_addDrum 52 = .ok (.iadd, 1) := dgX5_addDrum_35.2.2.2.2.2.2.2.2.2.2.2.1
theorem dgX5_addDrum_53 : (decode cX5_addDrum 53 = .ok (.putfield 54, 3)) ∧ (decode cX5_addDrum 56 = .ok (.ireturn, 1)) ∧ True := dkW [(53, .putfield 54, 3), (56, .ireturn, 1)] 53 (by decide +kernel)
theorem dX5_addDrum_53 : decode cX5_addDrum 53 = .ok (.putfield 54, 3) := dgX5_addDrum_53.1
theorem dX5_addDrum_56 : decode cX5_addDrum 56 = .ok (.ireturn, 1) := dgX5_addDrum_53.2.1
abbrev rmX5_addDrum : Room := { frames := 2, cells := 1, slots := 2, locals := 34 }
noncomputable def fX5_addDrum (N : Nat) (h : Hs) (t : Nat) (p1 : Int32) : Option (Int32 × Hs) :=
  (fX11_isWithin N h p1 1 20).bind fun r1 =>
  if r1.1 = 0 then (
  some ((-1), r1.2))
  else (oI 5 8 r1.2 (some t)).bind fun v2 =>
  if v2 < 20 then (
  (oR 5 1 r1.2 (some t)).bind fun o3 =>
  (oI 5 8 r1.2 (some t)).bind fun v4 =>
  (some (nw r1.2 (2, 0))).bind fun h5 =>
  (oI 5 8 h5 (some t)).bind fun v6 =>
  (fX2_init N h5 (sz r1.2) v6 p1).bind fun r7 =>
  (sQ 24 2 r7 o3 v4 (some (sz r1.2))).bind fun h8 =>
  (oI 5 8 h8 (some t)).bind fun v9 =>
  (qI 5 8 h8 (some t) (v9 + 1)).bind fun h10 =>
  some (v9, h10))
  else some ((-3), r1.2)
set_option maxHeartbeats 4000000 in
set_option maxRecDepth 20000 in
theorem kX5_addDrum (l : Launch) (G : Gl) {N : Nat} {h : Hs} {t : Nat} {p1 : Int32} {r : Int32 × Hs} (hf : fX5_addDrum N h t p1 = some r) : CT l G yX5_addDrum cX5_addDrum 2 (some .int) rmX5_addDrum [.inr (some t), .inl p1] h (some (.inl r.1)) r.2 := by
  refine mk_CT (by decide) (Nat.le_of_ble_eq_true rfl) ?_
  intro p e s m args below meth c C hret hin
  unfold fX5_addDrum at hf
  refine r_iload_n C dX5_addDrum_0 rfl ?_
  refine r_iconst (v := 1) C dX5_addDrum_1 (by decide) ?_
  refine r_bipush (v := 20) C dX5_addDrum_2 (by decide) ?_
  obtain ⟨r1, er1, hf⟩ := bS hf
  refine r_invSN1 (As := [.inl p1, .inl 1, .inl 20]) (host := "StageMachine") C dX5_addDrum_4 mcX11_isWithin (by decide) wd_291 ⟨by decide, by decide⟩ ⟨by decide, by decide⟩ rfl (Nat.le_of_ble_eq_true rfl) (kX11_isWithin l G er1) ?_
  refine r_if_ne (tgt := 12) C dX5_addDrum_7 (by decide) (fun hc => ?_) (fun hc => ?_)
  · have hf := ifF hf hc
    refine r_aload_n C dX5_addDrum_12 rfl ?_
    obtain ⟨v2, ev2, hf⟩ := bS hf
    refine r_getI C dX5_addDrum_13 fl_X5_54 rfl ev2 ?_
    refine r_bipush (v := 20) C dX5_addDrum_16 (by decide) ?_
    refine r_icmp_lt (tgt := 24) C dX5_addDrum_18 (by decide) (fun hc => ?_) (fun hc => ?_)
    · have hf := ifT hf hc
      refine r_aload_n C dX5_addDrum_24 rfl ?_
      obtain ⟨o3, eo3, hf⟩ := bS hf
      refine r_getR C dX5_addDrum_25 fl_X5_19 rfl eo3 ?_
      refine r_aload_n C dX5_addDrum_28 rfl ?_
      obtain ⟨v4, ev4, hf⟩ := bS hf
      refine r_getI C dX5_addDrum_29 fl_X5_54 rfl ev4 ?_
      obtain ⟨h5, eh5, hf⟩ := bS hf
      cases eh5
      refine r_new C dX5_addDrum_32 fc_2 wd_123 wd_400 wd_12 (by decide) (by decide) (by decide) ?_
      refine r_dup C dX5_addDrum_35 ?_
      refine r_aload_n C dX5_addDrum_36 rfl ?_
      obtain ⟨v6, ev6, hf⟩ := bS hf
      refine r_getI C dX5_addDrum_37 fl_X5_54 rfl ev6 ?_
      refine r_iload_n C dX5_addDrum_40 rfl ?_
      obtain ⟨r7, er7, hf⟩ := bS hf
      refine r_invI0 (As := [.inl v6, .inl p1]) C dX5_addDrum_41 mcX2_init wd_401 wd_402 rfl ⟨by decide, by decide⟩ ⟨by decide, by decide⟩ rfl (Nat.le_of_ble_eq_true rfl) (kX2_init l G er7) ?_
      obtain ⟨h8, eh8, hf⟩ := bS hf
      refine r_qast (t := 4) (ci := 2) C dX5_addDrum_44 (by decide) (by decide) (by decide) rfl rfl eh8 ?_
      refine r_aload_n C dX5_addDrum_45 rfl ?_
      refine r_dup C dX5_addDrum_46 ?_
      obtain ⟨v9, ev9, hf⟩ := bS hf
      refine r_getI C dX5_addDrum_47 fl_X5_54 rfl ev9 ?_
      refine r_dup_x1 C dX5_addDrum_50 ?_
      refine r_iconst (v := 1) C dX5_addDrum_51 (by decide) ?_
      refine r_iadd C dX5_addDrum_52 ?_
      obtain ⟨h10, eh10, hf⟩ := bS hf
      refine r_putI C dX5_addDrum_53 fl_X5_54 (Or.inl fn_5_8) rfl eh10 ?_
      exact r_iretF C dX5_addDrum_56 hret hf (by decide) (by decide)
    · have hf := ifF hf hc
      refine r_bipush (v := -3) C dX5_addDrum_21 (by decide) ?_
      exact r_iretF C dX5_addDrum_23 hret hf (by decide) (by decide)
  · have hf := ifT hf hc
    refine r_iconst (v := -1) C dX5_addDrum_10 (by decide) ?_
    exact r_iretF C dX5_addDrum_11 hret hf (by decide) (by decide)

theorem dgX5_addRope_0 : (decode cX5_addRope 0 = .ok (.aload_n 0, 1)) ∧ (decode cX5_addRope 1 = .ok (.iload_n 1, 1)) ∧ (decode cX5_addRope 2 = .ok (.invokevirtual 74, 3)) ∧ (decode cX5_addRope 5 = .ok (.astore 4, 2)) ∧ (decode cX5_addRope 7 = .ok (.iload_n 2, 1)) ∧ (decode cX5_addRope 8 = .ok (.bipush 10, 2)) ∧ (decode cX5_addRope 10 = .ok (.idiv, 1)) ∧ (decode cX5_addRope 11 = .ok (.istore 5, 2)) ∧ (decode cX5_addRope 13 = .ok (.iload_n 2, 1)) ∧ (decode cX5_addRope 14 = .ok (.bipush 10, 2)) ∧ (decode cX5_addRope 16 = .ok (.irem, 1)) ∧ (decode cX5_addRope 17 = .ok (.istore 6, 2)) ∧ True := dkW [(0, .aload_n 0, 1), (1, .iload_n 1, 1), (2, .invokevirtual 74, 3), (5, .astore 4, 2), (7, .iload_n 2, 1), (8, .bipush 10, 2), (10, .idiv, 1), (11, .istore 5, 2), (13, .iload_n 2, 1), (14, .bipush 10, 2), (16, .irem, 1), (17, .istore 6, 2)] 0 (by decide +kernel)
theorem dX5_addRope_0 : decode cX5_addRope 0 = .ok (.aload_n 0, 1) := dgX5_addRope_0.1
theorem dX5_addRope_1 : decode cX5_addRope 1 = .ok (.iload_n 1, 1) := dgX5_addRope_0.2.1
theorem dX5_addRope_2 : decode cX5_addRope 2 = .ok (.invokevirtual 74, 3) := dgX5_addRope_0.2.2.1
theorem dX5_addRope_5 : decode cX5_addRope 5 = .ok (.astore 4, 2) := dgX5_addRope_0.2.2.2.1
theorem dX5_addRope_7 : decode cX5_addRope 7 = .ok (.iload_n 2, 1) := dgX5_addRope_0.2.2.2.2.1
theorem dX5_addRope_8 : decode cX5_addRope 8 = .ok (.bipush 10, 2) := dgX5_addRope_0.2.2.2.2.2.1
theorem dX5_addRope_10 : decode cX5_addRope 10 = .ok (.idiv, 1) := dgX5_addRope_0.2.2.2.2.2.2.1
theorem dX5_addRope_11 : decode cX5_addRope 11 = .ok (.istore 5, 2) := dgX5_addRope_0.2.2.2.2.2.2.2.1
theorem dX5_addRope_13 : decode cX5_addRope 13 = .ok (.iload_n 2, 1) := dgX5_addRope_0.2.2.2.2.2.2.2.2.1
theorem dX5_addRope_14 : decode cX5_addRope 14 = .ok (.bipush 10, 2) := dgX5_addRope_0.2.2.2.2.2.2.2.2.2.1
theorem dX5_addRope_16 : decode cX5_addRope 16 = .ok (.irem, 1) := dgX5_addRope_0.2.2.2.2.2.2.2.2.2.2.1
theorem dX5_addRope_17 : decode cX5_addRope 17 = .ok (.istore 6, 2) := dgX5_addRope_0.2.2.2.2.2.2.2.2.2.2.2.1
theorem dgX5_addRope_19 : (decode cX5_addRope 19 = .ok (.iload 5, 2)) ∧ (decode cX5_addRope 21 = .ok (.iconst 1, 1)) ∧ (decode cX5_addRope 22 = .ok (.iconst 5, 1)) ∧ (decode cX5_addRope 23 = .ok (.invokestatic 50, 3)) ∧ (decode cX5_addRope 26 = .ok (.ifCond .eq 17, 3)) ∧ (decode cX5_addRope 29 = .ok (.iload 6, 2)) ∧ (decode cX5_addRope 31 = .ok (.iconst 1, 1)) ∧ (decode cX5_addRope 32 = .ok (.iconst 2, 1)) ∧ (decode cX5_addRope 33 = .ok (.invokestatic 50, 3)) ∧ (decode cX5_addRope 36 = .ok (.ifCond .eq 7, 3)) ∧ (decode cX5_addRope 39 = .ok (.iconst 1, 1)) ∧ (decode cX5_addRope 40 = .ok (.goto 4, 3)) ∧ True := dkW [(19, .iload 5, 2), (21, .iconst 1, 1), (22, .iconst 5, 1), (23, .invokestatic 50, 3), (26, .ifCond .eq 17, 3), (29, .iload 6, 2), (31, .iconst 1, 1), (32, .iconst 2, 1), (33, .invokestatic 50, 3), (36, .ifCond .eq 7, 3), (39, .iconst 1, 1), (40, .goto 4, 3)] 19 (by decide +kernel)
theorem dX5_addRope_19 : decode cX5_addRope 19 = .ok (.iload 5, 2) := dgX5_addRope_19.1
theorem dX5_addRope_21 : decode cX5_addRope 21 = .ok (.iconst 1, 1) := dgX5_addRope_19.2.1
theorem dX5_addRope_22 : decode cX5_addRope 22 = .ok (.iconst 5, 1) := dgX5_addRope_19.2.2.1
theorem dX5_addRope_23 : decode cX5_addRope 23 = .ok (.invokestatic 50, 3) := dgX5_addRope_19.2.2.2.1
theorem dX5_addRope_26 : decode cX5_addRope 26 = .ok (.ifCond .eq 17, 3) := dgX5_addRope_19.2.2.2.2.1
theorem dX5_addRope_29 : decode cX5_addRope 29 = .ok (.iload 6, 2) := dgX5_addRope_19.2.2.2.2.2.1
theorem dX5_addRope_31 : decode cX5_addRope 31 = .ok (.iconst 1, 1) := dgX5_addRope_19.2.2.2.2.2.2.1
theorem dX5_addRope_32 : decode cX5_addRope 32 = .ok (.iconst 2, 1) := dgX5_addRope_19.2.2.2.2.2.2.2.1
theorem dX5_addRope_33 : decode cX5_addRope 33 = .ok (.invokestatic 50, 3) := dgX5_addRope_19.2.2.2.2.2.2.2.2.1
theorem dX5_addRope_36 : decode cX5_addRope 36 = .ok (.ifCond .eq 7, 3) := dgX5_addRope_19.2.2.2.2.2.2.2.2.2.1
theorem dX5_addRope_39 : decode cX5_addRope 39 = .ok (.iconst 1, 1) := dgX5_addRope_19.2.2.2.2.2.2.2.2.2.2.1
theorem dX5_addRope_40 : decode cX5_addRope 40 = .ok (.goto 4, 3) := dgX5_addRope_19.2.2.2.2.2.2.2.2.2.2.2.1
theorem dgX5_addRope_43 : (decode cX5_addRope 43 = .ok (.iconst 0, 1)) ∧ (decode cX5_addRope 44 = .ok (.istore 7, 2)) ∧ (decode cX5_addRope 46 = .ok (.aload 4, 2)) ∧ (decode cX5_addRope 48 = .ok (.ifnull 19, 3)) ∧ (decode cX5_addRope 51 = .ok (.iload 7, 2)) ∧ (decode cX5_addRope 53 = .ok (.ifCond .eq 14, 3)) ∧ (decode cX5_addRope 56 = .ok (.iload_n 3, 1)) ∧ (decode cX5_addRope 57 = .ok (.iconst 1, 1)) ∧ (decode cX5_addRope 58 = .ok (.sipush 9999, 3)) ∧ (decode cX5_addRope 61 = .ok (.invokestatic 50, 3)) ∧ (decode cX5_addRope 64 = .ok (.ifCond .ne 5, 3)) ∧ True := dkW [(43, .iconst 0, 1), (44, .istore 7, 2), (46, .aload 4, 2), (48, .ifnull 19, 3), (51, .iload 7, 2), (53, .ifCond .eq 14, 3), (56, .iload_n 3, 1), (57, .iconst 1, 1), (58, .sipush 9999, 3), (61, .invokestatic 50, 3), (64, .ifCond .ne 5, 3)] 43 (by decide +kernel)
theorem dX5_addRope_43 : decode cX5_addRope 43 = .ok (.iconst 0, 1) := dgX5_addRope_43.1
theorem dX5_addRope_44 : decode cX5_addRope 44 = .ok (.istore 7, 2) := dgX5_addRope_43.2.1
theorem dX5_addRope_46 : decode cX5_addRope 46 = .ok (.aload 4, 2) := dgX5_addRope_43.2.2.1
theorem dX5_addRope_48 : decode cX5_addRope 48 = .ok (.ifnull 19, 3) := dgX5_addRope_43.2.2.2.1
theorem dX5_addRope_51 : decode cX5_addRope 51 = .ok (.iload 7, 2) := dgX5_addRope_43.2.2.2.2.1
theorem dX5_addRope_53 : decode cX5_addRope 53 = .ok (.ifCond .eq 14, 3) := dgX5_addRope_43.2.2.2.2.2.1
theorem dX5_addRope_56 : decode cX5_addRope 56 = .ok (.iload_n 3, 1) := dgX5_addRope_43.2.2.2.2.2.2.1
theorem dX5_addRope_57 : decode cX5_addRope 57 = .ok (.iconst 1, 1) := dgX5_addRope_43.2.2.2.2.2.2.2.1
theorem dX5_addRope_58 : decode cX5_addRope 58 = .ok (.sipush 9999, 3) := dgX5_addRope_43.2.2.2.2.2.2.2.2.1
theorem dX5_addRope_61 : decode cX5_addRope 61 = .ok (.invokestatic 50, 3) := dgX5_addRope_43.2.2.2.2.2.2.2.2.2.1
theorem dX5_addRope_64 : decode cX5_addRope 64 = .ok (.ifCond .ne 5, 3) := dgX5_addRope_43.2.2.2.2.2.2.2.2.2.2.1
theorem dX5_addRope_67 : decode cX5_addRope 67 = .ok (.iconst (-1), 1) := by decide +kernel
theorem dgX5_addRope_68 : (decode cX5_addRope 68 = .ok (.ireturn, 1)) ∧ (decode cX5_addRope 69 = .ok (.aload_n 0, 1)) ∧ (decode cX5_addRope 70 = .ok (.getfield 57, 3)) ∧ (decode cX5_addRope 73 = .ok (.bipush 40, 2)) ∧ (decode cX5_addRope 75 = .ok (.if_icmp .lt 6, 3)) ∧ (decode cX5_addRope 78 = .ok (.bipush (-3), 2)) ∧ (decode cX5_addRope 80 = .ok (.ireturn, 1)) ∧ (decode cX5_addRope 81 = .ok (.aload_n 0, 1)) ∧ (decode cX5_addRope 82 = .ok (.getfield 25, 3)) ∧ (decode cX5_addRope 85 = .ok (.aload_n 0, 1)) ∧ (decode cX5_addRope 86 = .ok (.getfield 57, 3)) ∧ (decode cX5_addRope 89 = .ok (.new 23, 3)) ∧ True := dkW [(68, .ireturn, 1), (69, .aload_n 0, 1), (70, .getfield 57, 3), (73, .bipush 40, 2), (75, .if_icmp .lt 6, 3), (78, .bipush (-3), 2), (80, .ireturn, 1), (81, .aload_n 0, 1), (82, .getfield 25, 3), (85, .aload_n 0, 1), (86, .getfield 57, 3), (89, .new 23, 3)] 68 (by decide +kernel)
theorem dX5_addRope_68 : decode cX5_addRope 68 = .ok (.ireturn, 1) := dgX5_addRope_68.1
theorem dX5_addRope_69 : decode cX5_addRope 69 = .ok (.aload_n 0, 1) := dgX5_addRope_68.2.1
theorem dX5_addRope_70 : decode cX5_addRope 70 = .ok (.getfield 57, 3) := dgX5_addRope_68.2.2.1
theorem dX5_addRope_73 : decode cX5_addRope 73 = .ok (.bipush 40, 2) := dgX5_addRope_68.2.2.2.1
theorem dX5_addRope_75 : decode cX5_addRope 75 = .ok (.if_icmp .lt 6, 3) := dgX5_addRope_68.2.2.2.2.1
theorem dX5_addRope_78 : decode cX5_addRope 78 = .ok (.bipush (-3), 2) := dgX5_addRope_68.2.2.2.2.2.1
theorem dX5_addRope_80 : decode cX5_addRope 80 = .ok (.ireturn, 1) := dgX5_addRope_68.2.2.2.2.2.2.1
theorem dX5_addRope_81 : decode cX5_addRope 81 = .ok (.aload_n 0, 1) := dgX5_addRope_68.2.2.2.2.2.2.2.1
theorem dX5_addRope_82 : decode cX5_addRope 82 = .ok (.getfield 25, 3) := dgX5_addRope_68.2.2.2.2.2.2.2.2.1
theorem dX5_addRope_85 : decode cX5_addRope 85 = .ok (.aload_n 0, 1) := dgX5_addRope_68.2.2.2.2.2.2.2.2.2.1
theorem dX5_addRope_86 : decode cX5_addRope 86 = .ok (.getfield 57, 3) := dgX5_addRope_68.2.2.2.2.2.2.2.2.2.2.1
theorem dX5_addRope_89 : decode cX5_addRope 89 = .ok (.new 23, 3) := dgX5_addRope_68.2.2.2.2.2.2.2.2.2.2.2.1
theorem dgX5_addRope_92 : (decode cX5_addRope 92 = .ok (.dup, 1)) ∧ (decode cX5_addRope 93 = .ok (.aload_n 0, 1)) ∧ (decode cX5_addRope 94 = .ok (.getfield 57, 3)) ∧ (decode cX5_addRope 97 = .ok (.aload 4, 2)) ∧ (decode cX5_addRope 99 = .ok (.iload 6, 2)) ∧ (decode cX5_addRope 101 = .ok (.iconst 1, 1)) ∧ (decode cX5_addRope 102 = .ok (.if_icmp .ne 7, 3)) ∧ (decode cX5_addRope 105 = .ok (.iconst 1, 1)) ∧ (decode cX5_addRope 106 = .ok (.goto 4, 3)) ∧ True := dkW [(92, .dup, 1), (93, .aload_n 0, 1), (94, .getfield 57, 3), (97, .aload 4, 2), (99, .iload 6, 2), (101, .iconst 1, 1), (102, .if_icmp .ne 7, 3), (105, .iconst 1, 1), (106, .goto 4, 3)] 92 (by decide +kernel)
theorem dX5_addRope_92 : decode cX5_addRope 92 = .ok (.dup, 1) := dgX5_addRope_92.1
theorem dX5_addRope_93 : decode cX5_addRope 93 = .ok (.aload_n 0, 1) := dgX5_addRope_92.2.1
theorem dX5_addRope_94 : decode cX5_addRope 94 = .ok (.getfield 57, 3) := dgX5_addRope_92.2.2.1
theorem dX5_addRope_97 : decode cX5_addRope 97 = .ok (.aload 4, 2) := dgX5_addRope_92.2.2.2.1
theorem dX5_addRope_99 : decode cX5_addRope 99 = .ok (.iload 6, 2) := dgX5_addRope_92.2.2.2.2.1
theorem dX5_addRope_101 : decode cX5_addRope 101 = .ok (.iconst 1, 1) := dgX5_addRope_92.2.2.2.2.2.1
theorem dX5_addRope_102 : decode cX5_addRope 102 = .ok (.if_icmp .ne 7, 3) := dgX5_addRope_92.2.2.2.2.2.2.1
theorem dX5_addRope_105 : decode cX5_addRope 105 = .ok (.iconst 1, 1) := dgX5_addRope_92.2.2.2.2.2.2.2.1
theorem dX5_addRope_106 : decode cX5_addRope 106 = .ok (.goto 4, 3) := dgX5_addRope_92.2.2.2.2.2.2.2.2.1
theorem dX5_addRope_109 : decode cX5_addRope 109 = .ok (.iconst (-1), 1) := by decide +kernel
theorem dgX5_addRope_110 : (decode cX5_addRope 110 = .ok (.iload 5, 2)) ∧ (decode cX5_addRope 112 = .ok (.iload_n 3, 1)) ∧ (decode cX5_addRope 113 = .ok (.invokespecial 78, 3)) ∧ (decode cX5_addRope 116 = .ok (.aastore, 1)) ∧ (decode cX5_addRope 117 = .ok (.aload_n 0, 1)) ∧ (decode cX5_addRope 118 = .ok (.dup, 1)) ∧ (decode cX5_addRope 119 = .ok (.getfield 57, 3)) ∧ (decode cX5_addRope 122 = .ok (.dup_x1, 1)) ∧ (decode cX5_addRope 123 = .ok (.iconst 1, 1)) ∧ (decode cX5_addRope 124 = .ok (.iadd, 1)) ∧ (decode cX5_addRope 125 = .ok (.putfield 57, 3)) ∧ (decode cX5_addRope 128 = .ok (.ireturn, 1)) ∧ True := dkW [(110, .iload 5, 2), (112, .iload_n 3, 1), (113, .invokespecial 78, 3), (116, .aastore, 1), (117, .aload_n 0, 1), (118, .dup, 1), (119, .getfield 57, 3), (122, .dup_x1, 1), (123, .iconst 1, 1), (124, .iadd, 1), (125, .putfield 57, 3), (128, .ireturn, 1)] 110 (by decide +kernel)
theorem dX5_addRope_110 : decode cX5_addRope 110 = .ok (.iload 5, 2) := dgX5_addRope_110.1
theorem dX5_addRope_112 : decode cX5_addRope 112 = .ok (.iload_n 3, 1) := dgX5_addRope_110.2.1
theorem dX5_addRope_113 : decode cX5_addRope 113 = .ok (.invokespecial 78, 3) := dgX5_addRope_110.2.2.1
theorem dX5_addRope_116 : decode cX5_addRope 116 = .ok (.aastore, 1) := dgX5_addRope_110.2.2.2.1
theorem dX5_addRope_117 : decode cX5_addRope 117 = .ok (.aload_n 0, 1) := dgX5_addRope_110.2.2.2.2.1
theorem dX5_addRope_118 : decode cX5_addRope 118 = .ok (.dup, 1) := dgX5_addRope_110.2.2.2.2.2.1
theorem dX5_addRope_119 : decode cX5_addRope 119 = .ok (.getfield 57, 3) := dgX5_addRope_110.2.2.2.2.2.2.1
theorem dX5_addRope_122 : decode cX5_addRope 122 = .ok (.dup_x1, 1) := dgX5_addRope_110.2.2.2.2.2.2.2.1
theorem dX5_addRope_123 : decode cX5_addRope 123 = .ok (.iconst 1, 1) := dgX5_addRope_110.2.2.2.2.2.2.2.2.1
theorem dX5_addRope_124 : decode cX5_addRope 124 = .ok (.iadd, 1) := dgX5_addRope_110.2.2.2.2.2.2.2.2.2.1
theorem dX5_addRope_125 : decode cX5_addRope 125 = .ok (.putfield 57, 3) := dgX5_addRope_110.2.2.2.2.2.2.2.2.2.2.1
theorem dX5_addRope_128 : decode cX5_addRope 128 = .ok (.ireturn, 1) := dgX5_addRope_110.2.2.2.2.2.2.2.2.2.2.2.1
abbrev rmX5_addRope : Room := { frames := 2, cells := 1, slots := 12, locals := 43 }
noncomputable def fX5_addRope_b67 (N : Nat)  (t : Nat) (h : Hs)  : Option (Int32 × Hs) :=
  some ((-1), h)
set_option maxHeartbeats 4000000 in
set_option maxRecDepth 20000 in
theorem wX5_addRope_b67 {p : Program} {l : Launch} {e : Env} {s : State} {m : MethodId} {args : Array Value} {below : List Frame} {meth : Method} {c : Code} {G : Gl} {N : Nat} {h : Hs} {r : Int32 × Hs}  {t : Nat}  (C : Cx p s m args meth c cX5_addRope RX5 8 G) (hret : meth.sig.returnType = (some .int))  (hf : fX5_addRope_b67 N  t h  = some r) : V p l e rmX5_addRope s m args below meth c G 8 (MQ below (QcG G (some (.inl r.1)) r.2) args s rmX5_addRope.cells rmX5_addRope.slots (AG G)) h 0 0 67 [some (.inr (some t)), none, none, none, none, none, none, none] [] := by
  unfold fX5_addRope_b67 at hf
  refine r_iconst (v := -1) C dX5_addRope_67 (by decide) ?_
  exact r_iretF C dX5_addRope_68 hret hf (by decide) (by decide)
noncomputable def fX5_addRope_b110 (N : Nat)  (t : Nat) (h : Hs) (x3 : Int32) (x5 : Int32) (q0 : Option Nat) (u1 : Int32) (q2 : Option Nat) (q3 : Option Nat) (u4 : Int32) (q5 : Option Nat) (u6 : Int32) : Option (Int32 × Hs) :=
  (q3).bind fun a2 =>
  (fX4_init N h a2 u4 q5 u6 x5 x3).bind fun r1 =>
  (sQ 25 4 r1 q0 u1 q2).bind fun h3 =>
  (oI 5 9 h3 (some t)).bind fun v4 =>
  (qI 5 9 h3 (some t) (v4 + 1)).bind fun h5 =>
  some (v4, h5)
set_option maxHeartbeats 4000000 in
set_option maxRecDepth 20000 in
theorem wX5_addRope_b110 {p : Program} {l : Launch} {e : Env} {s : State} {m : MethodId} {args : Array Value} {below : List Frame} {meth : Method} {c : Code} {G : Gl} {N : Nat} {h : Hs} {r : Int32 × Hs}  {t : Nat} {x3 : Int32} {x5 : Int32} {q0 : Option Nat} {u1 : Int32} {q2 : Option Nat} {q3 : Option Nat} {u4 : Int32} {q5 : Option Nat} {u6 : Int32} (C : Cx p s m args meth c cX5_addRope RX5 8 G) (hret : meth.sig.returnType = (some .int))  (hf : fX5_addRope_b110 N  t h x3 x5 q0 u1 q2 q3 u4 q5 u6 = some r) : V p l e rmX5_addRope s m args below meth c G 8 (MQ below (QcG G (some (.inl r.1)) r.2) args s rmX5_addRope.cells rmX5_addRope.slots (AG G)) h 1 12 110 [some (.inr (some t)), none, none, some (.inl x3), none, some (.inl x5), none, none] [.inl u6, .inr q5, .inl u4, .inr q3, .inr q2, .inl u1, .inr q0] := by
  unfold fX5_addRope_b110 at hf
  refine r_iload C dX5_addRope_110 rfl ?_
  refine r_iload_n C dX5_addRope_112 rfl ?_
  obtain ⟨a2, ea2, hf⟩ := bS hf
  obtain ⟨r1, er1, hf⟩ := bS hf
  refine r_invI0o (As := [.inl u4, .inr q5, .inl u6, .inl x5, .inl x3]) C dX5_addRope_113 mcX4_init wd_426 wd_427 rfl ⟨by decide, by decide⟩ ⟨by decide, by decide⟩ rfl (Nat.le_of_ble_eq_true rfl) ea2 (kX4_init l G er1) ?_
  obtain ⟨h3, eh3, hf⟩ := bS hf
  refine r_qast (t := 5) (ci := 4) C dX5_addRope_116 (by decide) (by decide) (by decide) rfl rfl eh3 ?_
  refine r_aload_n C dX5_addRope_117 rfl ?_
  refine r_dup C dX5_addRope_118 ?_
  obtain ⟨v4, ev4, hf⟩ := bS hf
  refine r_getI C dX5_addRope_119 fl_X5_57 rfl ev4 ?_
  refine r_dup_x1 C dX5_addRope_122 ?_
  refine r_iconst (v := 1) C dX5_addRope_123 (by decide) ?_
  refine r_iadd C dX5_addRope_124 ?_
  obtain ⟨h5, eh5, hf⟩ := bS hf
  refine r_putI C dX5_addRope_125 fl_X5_57 (Or.inl fn_5_9) rfl eh5 ?_
  exact r_iretF C dX5_addRope_128 hret hf (by decide) (by decide)
noncomputable def fX5_addRope_b44 (N : Nat)  (t : Nat) (h : Hs) (x3 : Int32) (w4 : Option Nat) (x5 : Int32) (x6 : Int32) (u0 : Int32) : Option (Int32 × Hs) :=
  if w4 = none then (
  fX5_addRope_b67 N t h)
  else if u0 = 0 then (
  fX5_addRope_b67 N t h)
  else (fX11_isWithin N h x3 1 9999).bind fun r1 =>
  if r1.1 = 0 then (
  fX5_addRope_b67 N t r1.2)
  else (oI 5 9 r1.2 (some t)).bind fun v2 =>
  if v2 < 40 then (
  (oR 5 2 r1.2 (some t)).bind fun o3 =>
  (oI 5 9 r1.2 (some t)).bind fun v4 =>
  (some (nw r1.2 (4, 0))).bind fun h5 =>
  (oI 5 9 h5 (some t)).bind fun v6 =>
  if x6 = 1 then (
  fX5_addRope_b110 N t h5 x3 x5 o3 v4 (some (sz r1.2)) (some (sz r1.2)) v6 w4 1)
  else fX5_addRope_b110 N t h5 x3 x5 o3 v4 (some (sz r1.2)) (some (sz r1.2)) v6 w4 (-1))
  else some ((-3), r1.2)
set_option maxHeartbeats 4000000 in
set_option maxRecDepth 20000 in
theorem wX5_addRope_b44 {p : Program} {l : Launch} {e : Env} {s : State} {m : MethodId} {args : Array Value} {below : List Frame} {meth : Method} {c : Code} {G : Gl} {N : Nat} {h : Hs} {r : Int32 × Hs}  {t : Nat} {x3 : Int32} {w4 : Option Nat} {x5 : Int32} {x6 : Int32} {u0 : Int32} (C : Cx p s m args meth c cX5_addRope RX5 8 G) (hret : meth.sig.returnType = (some .int))  (hf : fX5_addRope_b44 N  t h x3 w4 x5 x6 u0 = some r) : V p l e rmX5_addRope s m args below meth c G 8 (MQ below (QcG G (some (.inl r.1)) r.2) args s rmX5_addRope.cells rmX5_addRope.slots (AG G)) h 0 0 44 [some (.inr (some t)), none, none, some (.inl x3), some (.inr w4), some (.inl x5), some (.inl x6), none] [.inl u0] := by
  unfold fX5_addRope_b44 at hf
  refine r_istore C dX5_addRope_44 (by decide) ?_
  refine r_aload C dX5_addRope_46 rfl ?_
  refine r_ifnull (tgt := 67) C dX5_addRope_48 (by decide) (fun hc => ?_) (fun hc => ?_)
  · have hf := ifT hf hc
    exact V.sub (wX5_addRope_b67 C hret hf) (LW_s rfl (LW_n (LW_n (LW_n (LW_n (LW_n (LW_n (LW_n (LW_e)))))))))
  · have hf := ifF hf hc
    refine r_iload C dX5_addRope_51 rfl ?_
    refine r_if_eq (tgt := 67) C dX5_addRope_53 (by decide) (fun hc => ?_) (fun hc => ?_)
    · have hf := ifT hf hc
      exact V.sub (wX5_addRope_b67 C hret hf) (LW_s rfl (LW_n (LW_n (LW_n (LW_n (LW_n (LW_n (LW_n (LW_e)))))))))
    · have hf := ifF hf hc
      refine r_iload_n C dX5_addRope_56 rfl ?_
      refine r_iconst (v := 1) C dX5_addRope_57 (by decide) ?_
      refine r_sipush (v := 9999) C dX5_addRope_58 (by decide) ?_
      obtain ⟨r1, er1, hf⟩ := bS hf
      refine r_invSN1 (As := [.inl x3, .inl 1, .inl 9999]) (host := "StageMachine") C dX5_addRope_61 mcX11_isWithin (by decide) wd_291 ⟨by decide, by decide⟩ ⟨by decide, by decide⟩ rfl (Nat.le_of_ble_eq_true rfl) (kX11_isWithin l G er1) ?_
      refine r_if_ne (tgt := 69) C dX5_addRope_64 (by decide) (fun hc => ?_) (fun hc => ?_)
      · have hf := ifF hf hc
        refine r_aload_n C dX5_addRope_69 rfl ?_
        obtain ⟨v2, ev2, hf⟩ := bS hf
        refine r_getI C dX5_addRope_70 fl_X5_57 rfl ev2 ?_
        refine r_bipush (v := 40) C dX5_addRope_73 (by decide) ?_
        refine r_icmp_lt (tgt := 81) C dX5_addRope_75 (by decide) (fun hc => ?_) (fun hc => ?_)
        · have hf := ifT hf hc
          refine r_aload_n C dX5_addRope_81 rfl ?_
          obtain ⟨o3, eo3, hf⟩ := bS hf
          refine r_getR C dX5_addRope_82 fl_X5_25 rfl eo3 ?_
          refine r_aload_n C dX5_addRope_85 rfl ?_
          obtain ⟨v4, ev4, hf⟩ := bS hf
          refine r_getI C dX5_addRope_86 fl_X5_57 rfl ev4 ?_
          obtain ⟨h5, eh5, hf⟩ := bS hf
          cases eh5
          refine r_new C dX5_addRope_89 fc_4 wd_125 wd_425 wd_13 (by decide) (by decide) (by decide) ?_
          refine r_dup C dX5_addRope_92 ?_
          refine r_aload_n C dX5_addRope_93 rfl ?_
          obtain ⟨v6, ev6, hf⟩ := bS hf
          refine r_getI C dX5_addRope_94 fl_X5_57 rfl ev6 ?_
          refine r_aload C dX5_addRope_97 rfl ?_
          refine r_iload C dX5_addRope_99 rfl ?_
          refine r_iconst (v := 1) C dX5_addRope_101 (by decide) ?_
          refine r_icmp_ne (tgt := 109) C dX5_addRope_102 (by decide) (fun hc => ?_) (fun hc => ?_)
          · have hf := ifF hf hc
            refine r_iconst (v := -1) C dX5_addRope_109 (by decide) ?_
            exact V.sub (wX5_addRope_b110 C hret hf) (LW_s rfl (LW_n (LW_n (LW_s rfl (LW_n (LW_s rfl (LW_n (LW_n (LW_e)))))))))
          · have hf := ifT hf hc
            refine r_iconst (v := 1) C dX5_addRope_105 (by decide) ?_
            refine r_goto (tgt := 110) C dX5_addRope_106 (by decide) ?_
            exact V.sub (wX5_addRope_b110 C hret hf) (LW_s rfl (LW_n (LW_n (LW_s rfl (LW_n (LW_s rfl (LW_n (LW_n (LW_e)))))))))
        · have hf := ifF hf hc
          refine r_bipush (v := -3) C dX5_addRope_78 (by decide) ?_
          exact r_iretF C dX5_addRope_80 hret hf (by decide) (by decide)
      · have hf := ifT hf hc
        exact V.sub (wX5_addRope_b67 C hret hf) (LW_s rfl (LW_n (LW_n (LW_n (LW_n (LW_n (LW_n (LW_n (LW_e)))))))))
noncomputable def fX5_addRope_b43 (N : Nat)  (t : Nat) (h : Hs) (x3 : Int32) (w4 : Option Nat) (x5 : Int32) (x6 : Int32) : Option (Int32 × Hs) :=
  fX5_addRope_b44 N t h x3 w4 x5 x6 0
set_option maxHeartbeats 4000000 in
set_option maxRecDepth 20000 in
theorem wX5_addRope_b43 {p : Program} {l : Launch} {e : Env} {s : State} {m : MethodId} {args : Array Value} {below : List Frame} {meth : Method} {c : Code} {G : Gl} {N : Nat} {h : Hs} {r : Int32 × Hs}  {t : Nat} {x3 : Int32} {w4 : Option Nat} {x5 : Int32} {x6 : Int32} (C : Cx p s m args meth c cX5_addRope RX5 8 G) (hret : meth.sig.returnType = (some .int))  (hf : fX5_addRope_b43 N  t h x3 w4 x5 x6 = some r) : V p l e rmX5_addRope s m args below meth c G 8 (MQ below (QcG G (some (.inl r.1)) r.2) args s rmX5_addRope.cells rmX5_addRope.slots (AG G)) h 0 0 43 [some (.inr (some t)), none, none, some (.inl x3), some (.inr w4), some (.inl x5), some (.inl x6), none] [] := by
  unfold fX5_addRope_b43 at hf
  refine r_iconst (v := 0) C dX5_addRope_43 (by decide) ?_
  exact V.sub (wX5_addRope_b44 C hret hf) (LW_s rfl (LW_n (LW_n (LW_s rfl (LW_s rfl (LW_s rfl (LW_s rfl (LW_n (LW_e)))))))))
noncomputable def fX5_addRope (N : Nat) (h : Hs) (t : Nat) (p1 : Int32) (p2 : Int32) (p3 : Int32) : Option (Int32 × Hs) :=
  (rc 5 h (some t)).bind fun a2 =>
  (fX5_thingNumbered N h a2 p1).bind fun r1 =>
  (some (p2 / 10)).bind fun y3 =>
  (some (p2 - p2 / 10 * 10)).bind fun y4 =>
  (fX11_isWithin N r1.2 y3 1 5).bind fun r5 =>
  if r5.1 = 0 then (
  fX5_addRope_b43 N t r5.2 p3 r1.1 y3 y4)
  else (fX11_isWithin N r5.2 y4 1 2).bind fun r6 =>
  if r6.1 = 0 then (
  fX5_addRope_b43 N t r6.2 p3 r1.1 y3 y4)
  else fX5_addRope_b44 N t r6.2 p3 r1.1 y3 y4 1
set_option maxHeartbeats 4000000 in
set_option maxRecDepth 20000 in
theorem kX5_addRope (l : Launch) (G : Gl) {N : Nat} {h : Hs} {t : Nat} {p1 : Int32} {p2 : Int32} {p3 : Int32} {r : Int32 × Hs} (hf : fX5_addRope N h t p1 p2 p3 = some r) : CT l G yX5_addRope cX5_addRope 8 (some .int) rmX5_addRope [.inr (some t), .inl p1, .inl p2, .inl p3] h (some (.inl r.1)) r.2 := by
  refine mk_CT (by decide) (Nat.le_of_ble_eq_true rfl) ?_
  intro p e s m args below meth c C hret hin
  unfold fX5_addRope at hf
  refine r_aload_n C dX5_addRope_0 rfl ?_
  refine r_iload_n C dX5_addRope_1 rfl ?_
  obtain ⟨a2, ea2, hf⟩ := bS hf
  obtain ⟨r1, er1, hf⟩ := bS hf
  refine r_invV1 (As := [.inl p1]) (ci := 5) C dX5_addRope_2 mcX5_thingNumbered wd_424 wd_373 wd_374 rfl rfl (by decide) ⟨by decide, by decide⟩ ⟨by decide, by decide⟩ rfl (Nat.le_of_ble_eq_true rfl) ea2 (kX5_thingNumbered l G er1) ?_
  refine r_astore C dX5_addRope_5 (by decide) ?_
  refine r_iload_n C dX5_addRope_7 rfl ?_
  refine r_bipush (v := 10) C dX5_addRope_8 (by decide) ?_
  refine r_idivK C dX5_addRope_10 (by decide) ?_
  obtain ⟨y3, ey3, hf⟩ := bS hf
  refine r_istoreE C dX5_addRope_11 (by decide) ey3 ?_
  refine r_iload_n C dX5_addRope_13 rfl ?_
  refine r_bipush (v := 10) C dX5_addRope_14 (by decide) ?_
  refine r_iremK C dX5_addRope_16 (by decide) ?_
  obtain ⟨y4, ey4, hf⟩ := bS hf
  refine r_istoreE C dX5_addRope_17 (by decide) ey4 ?_
  refine r_iload C dX5_addRope_19 rfl ?_
  refine r_iconst (v := 1) C dX5_addRope_21 (by decide) ?_
  refine r_iconst (v := 5) C dX5_addRope_22 (by decide) ?_
  obtain ⟨r5, er5, hf⟩ := bS hf
  refine r_invSN1 (As := [.inl y3, .inl 1, .inl 5]) (host := "StageMachine") C dX5_addRope_23 mcX11_isWithin (by decide) wd_291 ⟨by decide, by decide⟩ ⟨by decide, by decide⟩ rfl (Nat.le_of_ble_eq_true rfl) (kX11_isWithin l G er5) ?_
  refine r_if_eq (tgt := 43) C dX5_addRope_26 (by decide) (fun hc => ?_) (fun hc => ?_)
  · have hf := ifT hf hc
    exact V.sub (wX5_addRope_b43 C hret hf) (LW_s rfl (LW_n (LW_n (LW_s rfl (LW_s rfl (LW_s rfl (LW_s rfl (LW_n (LW_e)))))))))
  · have hf := ifF hf hc
    refine r_iload C dX5_addRope_29 rfl ?_
    refine r_iconst (v := 1) C dX5_addRope_31 (by decide) ?_
    refine r_iconst (v := 2) C dX5_addRope_32 (by decide) ?_
    obtain ⟨r6, er6, hf⟩ := bS hf
    refine r_invSN1 (As := [.inl y4, .inl 1, .inl 2]) (host := "StageMachine") C dX5_addRope_33 mcX11_isWithin (by decide) wd_291 ⟨by decide, by decide⟩ ⟨by decide, by decide⟩ rfl (Nat.le_of_ble_eq_true rfl) (kX11_isWithin l G er6) ?_
    refine r_if_eq (tgt := 43) C dX5_addRope_36 (by decide) (fun hc => ?_) (fun hc => ?_)
    · have hf := ifT hf hc
      exact V.sub (wX5_addRope_b43 C hret hf) (LW_s rfl (LW_n (LW_n (LW_s rfl (LW_s rfl (LW_s rfl (LW_s rfl (LW_n (LW_e)))))))))
    · have hf := ifF hf hc
      refine r_iconst (v := 1) C dX5_addRope_39 (by decide) ?_
      refine r_goto (tgt := 44) C dX5_addRope_40 (by decide) ?_
      exact V.sub (wX5_addRope_b44 C hret hf) (LW_s rfl (LW_n (LW_n (LW_s rfl (LW_s rfl (LW_s rfl (LW_s rfl (LW_n (LW_e)))))))))

theorem dgX9_covers_0 : (decode cX9_covers 0 = .ok (.aload_n 0, 1)) ∧ (decode cX9_covers 1 = .ok (.getfield 22, 3)) ∧ (decode cX9_covers 4 = .ok (.iload_n 1, 1)) ∧ (decode cX9_covers 5 = .ok (.if_icmp .gt 20, 3)) ∧ (decode cX9_covers 8 = .ok (.iload_n 1, 1)) ∧ (decode cX9_covers 9 = .ok (.aload_n 0, 1)) ∧ (decode cX9_covers 10 = .ok (.getfield 22, 3)) ∧ (decode cX9_covers 13 = .ok (.aload_n 0, 1)) ∧ (decode cX9_covers 14 = .ok (.getfield 25, 3)) ∧ (decode cX9_covers 17 = .ok (.iadd, 1)) ∧ (decode cX9_covers 18 = .ok (.if_icmp .ge 7, 3)) ∧ (decode cX9_covers 21 = .ok (.iconst 1, 1)) ∧ True := dkW [(0, .aload_n 0, 1), (1, .getfield 22, 3), (4, .iload_n 1, 1), (5, .if_icmp .gt 20, 3), (8, .iload_n 1, 1), (9, .aload_n 0, 1), (10, .getfield 22, 3), (13, .aload_n 0, 1), (14, .getfield 25, 3), (17, .iadd, 1), (18, .if_icmp .ge 7, 3), (21, .iconst 1, 1)] 0 (by decide +kernel)
theorem dX9_covers_0 : decode cX9_covers 0 = .ok (.aload_n 0, 1) := dgX9_covers_0.1
theorem dX9_covers_1 : decode cX9_covers 1 = .ok (.getfield 22, 3) := dgX9_covers_0.2.1
theorem dX9_covers_4 : decode cX9_covers 4 = .ok (.iload_n 1, 1) := dgX9_covers_0.2.2.1
theorem dX9_covers_5 : decode cX9_covers 5 = .ok (.if_icmp .gt 20, 3) := dgX9_covers_0.2.2.2.1
theorem dX9_covers_8 : decode cX9_covers 8 = .ok (.iload_n 1, 1) := dgX9_covers_0.2.2.2.2.1
theorem dX9_covers_9 : decode cX9_covers 9 = .ok (.aload_n 0, 1) := dgX9_covers_0.2.2.2.2.2.1
theorem dX9_covers_10 : decode cX9_covers 10 = .ok (.getfield 22, 3) := dgX9_covers_0.2.2.2.2.2.2.1
theorem dX9_covers_13 : decode cX9_covers 13 = .ok (.aload_n 0, 1) := dgX9_covers_0.2.2.2.2.2.2.2.1
theorem dX9_covers_14 : decode cX9_covers 14 = .ok (.getfield 25, 3) := dgX9_covers_0.2.2.2.2.2.2.2.2.1
theorem dX9_covers_17 : decode cX9_covers 17 = .ok (.iadd, 1) := dgX9_covers_0.2.2.2.2.2.2.2.2.2.1
theorem dX9_covers_18 : decode cX9_covers 18 = .ok (.if_icmp .ge 7, 3) := dgX9_covers_0.2.2.2.2.2.2.2.2.2.2.1
theorem dX9_covers_21 : decode cX9_covers 21 = .ok (.iconst 1, 1) := dgX9_covers_0.2.2.2.2.2.2.2.2.2.2.2.1
theorem dgX9_covers_22 : (decode cX9_covers 22 = .ok (.goto 4, 3)) ∧ (decode cX9_covers 25 = .ok (.iconst 0, 1)) ∧ (decode cX9_covers 26 = .ok (.ireturn, 1)) ∧ True := dkW [(22, .goto 4, 3), (25, .iconst 0, 1), (26, .ireturn, 1)] 22 (by decide +kernel)
theorem dX9_covers_22 : decode cX9_covers 22 = .ok (.goto 4, 3) := dgX9_covers_22.1
theorem dX9_covers_25 : decode cX9_covers 25 = .ok (.iconst 0, 1) := dgX9_covers_22.2.1
theorem dX9_covers_26 : decode cX9_covers 26 = .ok (.ireturn, 1) := dgX9_covers_22.2.2.1
abbrev rmX9_covers : Room := { frames := 0, cells := 0, slots := 0, locals := 0 }
noncomputable def fX9_covers_b26 (N : Nat)  (t : Nat) (h : Hs) (u0 : Int32) : Option (Int32 × Hs) :=
  (zc u0).bind fun z1 =>
  some (z1, h)
set_option maxHeartbeats 4000000 in
set_option maxRecDepth 20000 in
theorem wX9_covers_b26 {p : Program} {l : Launch} {e : Env} {s : State} {m : MethodId} {args : Array Value} {below : List Frame} {meth : Method} {c : Code} {G : Gl} {N : Nat} {h : Hs} {r : Int32 × Hs}  {t : Nat} {u0 : Int32} (C : Cx p s m args meth c cX9_covers RX9 2 G) (hret : meth.sig.returnType = (some .boolean))  (hf : fX9_covers_b26 N  t h u0 = some r) : V p l e rmX9_covers s m args below meth c G 2 (MQ below (QcG G (some (.inl r.1)) r.2) args s rmX9_covers.cells rmX9_covers.slots (AG G)) h 0 0 26 [some (.inr (some t)), none] [.inl u0] := by
  unfold fX9_covers_b26 at hf
  obtain ⟨z1, ez1, hf⟩ := bS hf
  exact r_zretF C dX9_covers_26 hret ez1 hf (by decide) (by decide)
noncomputable def fX9_covers_b25 (N : Nat)  (t : Nat) (h : Hs)  : Option (Int32 × Hs) :=
  fX9_covers_b26 N t h 0
set_option maxHeartbeats 4000000 in
set_option maxRecDepth 20000 in
theorem wX9_covers_b25 {p : Program} {l : Launch} {e : Env} {s : State} {m : MethodId} {args : Array Value} {below : List Frame} {meth : Method} {c : Code} {G : Gl} {N : Nat} {h : Hs} {r : Int32 × Hs}  {t : Nat}  (C : Cx p s m args meth c cX9_covers RX9 2 G) (hret : meth.sig.returnType = (some .boolean))  (hf : fX9_covers_b25 N  t h  = some r) : V p l e rmX9_covers s m args below meth c G 2 (MQ below (QcG G (some (.inl r.1)) r.2) args s rmX9_covers.cells rmX9_covers.slots (AG G)) h 0 0 25 [some (.inr (some t)), none] [] := by
  unfold fX9_covers_b25 at hf
  refine r_iconst (v := 0) C dX9_covers_25 (by decide) ?_
  exact V.sub (wX9_covers_b26 C hret hf) (LW_s rfl (LW_n (LW_e)))
noncomputable def fX9_covers (N : Nat) (h : Hs) (t : Nat) (p1 : Int32) : Option (Int32 × Hs) :=
  (oI 9 7 h (some t)).bind fun v1 =>
  if p1 < v1 then (
  fX9_covers_b25 N t h)
  else (oI 9 7 h (some t)).bind fun v2 =>
  (oI 9 2 h (some t)).bind fun v3 =>
  if (v2 + v3) ≤ p1 then (
  fX9_covers_b25 N t h)
  else fX9_covers_b26 N t h 1
set_option maxHeartbeats 4000000 in
set_option maxRecDepth 20000 in
theorem kX9_covers (l : Launch) (G : Gl) {N : Nat} {h : Hs} {t : Nat} {p1 : Int32} {r : Int32 × Hs} (hf : fX9_covers N h t p1 = some r) : CT l G yX9_covers cX9_covers 2 (some .boolean) rmX9_covers [.inr (some t), .inl p1] h (some (.inl r.1)) r.2 := by
  refine mk_CT (by decide) (Nat.le_of_ble_eq_true rfl) ?_
  intro p e s m args below meth c C hret hin
  unfold fX9_covers at hf
  refine r_aload_n C dX9_covers_0 rfl ?_
  obtain ⟨v1, ev1, hf⟩ := bS hf
  refine r_getI C dX9_covers_1 fl_X9_22 rfl ev1 ?_
  refine r_iload_n C dX9_covers_4 rfl ?_
  refine r_icmp_gt (tgt := 25) C dX9_covers_5 (by decide) (fun hc => ?_) (fun hc => ?_)
  · have hf := ifT hf hc
    exact V.sub (wX9_covers_b25 C hret hf) (LW_s rfl (LW_n (LW_e)))
  · have hf := ifF hf hc
    refine r_iload_n C dX9_covers_8 rfl ?_
    refine r_aload_n C dX9_covers_9 rfl ?_
    obtain ⟨v2, ev2, hf⟩ := bS hf
    refine r_getI C dX9_covers_10 fl_X9_22 rfl ev2 ?_
    refine r_aload_n C dX9_covers_13 rfl ?_
    obtain ⟨v3, ev3, hf⟩ := bS hf
    refine r_getI C dX9_covers_14 fl_X9_25 rfl ev3 ?_
    refine r_iadd C dX9_covers_17 ?_
    refine r_icmp_ge (tgt := 25) C dX9_covers_18 (by decide) (fun hc => ?_) (fun hc => ?_)
    · have hf := ifT hf hc
      exact V.sub (wX9_covers_b25 C hret hf) (LW_s rfl (LW_n (LW_e)))
    · have hf := ifF hf hc
      refine r_iconst (v := 1) C dX9_covers_21 (by decide) ?_
      refine r_goto (tgt := 26) C dX9_covers_22 (by decide) ?_
      exact V.sub (wX9_covers_b26 C hret hf) (LW_s rfl (LW_n (LW_e)))

theorem dgX5_standingOn_0 : (decode cX5_standingOn 0 = .ok (.iload_n 1, 1)) ∧ (decode cX5_standingOn 1 = .ok (.invokestatic 60, 3)) ∧ (decode cX5_standingOn 4 = .ok (.ifCond .ne 5, 3)) ∧ True := dkW [(0, .iload_n 1, 1), (1, .invokestatic 60, 3), (4, .ifCond .ne 5, 3)] 0 (by decide +kernel)
theorem dX5_standingOn_0 : decode cX5_standingOn 0 = .ok (.iload_n 1, 1) := dgX5_standingOn_0.1
theorem dX5_standingOn_1 : decode cX5_standingOn 1 = .ok (.invokestatic 60, 3) := dgX5_standingOn_0.2.1
theorem dX5_standingOn_4 : decode cX5_standingOn 4 = .ok (.ifCond .ne 5, 3) := dgX5_standingOn_0.2.2.1
theorem dX5_standingOn_7 : decode cX5_standingOn 7 = .ok (.iconst (-1), 1) := by decide +kernel
theorem dgX5_standingOn_8 : (decode cX5_standingOn 8 = .ok (.ireturn, 1)) ∧ (decode cX5_standingOn 9 = .ok (.iload_n 1, 1)) ∧ (decode cX5_standingOn 10 = .ok (.bipush 100, 2)) ∧ (decode cX5_standingOn 12 = .ok (.idiv, 1)) ∧ (decode cX5_standingOn 13 = .ok (.istore_n 2, 1)) ∧ (decode cX5_standingOn 14 = .ok (.iconst 0, 1)) ∧ (decode cX5_standingOn 15 = .ok (.istore_n 3, 1)) ∧ (decode cX5_standingOn 16 = .ok (.iload_n 3, 1)) ∧ (decode cX5_standingOn 17 = .ok (.aload_n 0, 1)) ∧ (decode cX5_standingOn 18 = .ok (.getfield 47, 3)) ∧ (decode cX5_standingOn 21 = .ok (.if_icmp .ge 40, 3)) ∧ (decode cX5_standingOn 24 = .ok (.aload_n 0, 1)) ∧ True := dkW [(8, .ireturn, 1), (9, .iload_n 1, 1), (10, .bipush 100, 2), (12, .idiv, 1), (13, .istore_n 2, 1), (14, .iconst 0, 1), (15, .istore_n 3, 1), (16, .iload_n 3, 1), (17, .aload_n 0, 1), (18, .getfield 47, 3), (21, .if_icmp .ge 40, 3), (24, .aload_n 0, 1)] 8 (by decide +kernel)
theorem dX5_standingOn_8 : decode cX5_standingOn 8 = .ok (.ireturn, 1) := dgX5_standingOn_8.1
theorem dX5_standingOn_9 : decode cX5_standingOn 9 = .ok (.iload_n 1, 1) := dgX5_standingOn_8.2.1
theorem dX5_standingOn_10 : decode cX5_standingOn 10 = .ok (.bipush 100, 2) := dgX5_standingOn_8.2.2.1
theorem dX5_standingOn_12 : decode cX5_standingOn 12 = .ok (.idiv, 1) := dgX5_standingOn_8.2.2.2.1
theorem dX5_standingOn_13 : decode cX5_standingOn 13 = .ok (.istore_n 2, 1) := dgX5_standingOn_8.2.2.2.2.1
theorem dX5_standingOn_14 : decode cX5_standingOn 14 = .ok (.iconst 0, 1) := dgX5_standingOn_8.2.2.2.2.2.1
theorem dX5_standingOn_15 : decode cX5_standingOn 15 = .ok (.istore_n 3, 1) := dgX5_standingOn_8.2.2.2.2.2.2.1
theorem dX5_standingOn_16 : decode cX5_standingOn 16 = .ok (.iload_n 3, 1) := dgX5_standingOn_8.2.2.2.2.2.2.2.1
theorem dX5_standingOn_17 : decode cX5_standingOn 17 = .ok (.aload_n 0, 1) := dgX5_standingOn_8.2.2.2.2.2.2.2.2.1
theorem dX5_standingOn_18 : decode cX5_standingOn 18 = .ok (.getfield 47, 3) := dgX5_standingOn_8.2.2.2.2.2.2.2.2.2.1
theorem dX5_standingOn_21 : decode cX5_standingOn 21 = .ok (.if_icmp .ge 40, 3) := dgX5_standingOn_8.2.2.2.2.2.2.2.2.2.2.1
theorem dX5_standingOn_24 : decode cX5_standingOn 24 = .ok (.aload_n 0, 1) := dgX5_standingOn_8.2.2.2.2.2.2.2.2.2.2.2.1
theorem dgX5_standingOn_25 : (decode cX5_standingOn 25 = .ok (.getfield 11, 3)) ∧ (decode cX5_standingOn 28 = .ok (.iload_n 3, 1)) ∧ (decode cX5_standingOn 29 = .ok (.aaload, 1)) ∧ (decode cX5_standingOn 30 = .ok (.getfield 81, 3)) ∧ (decode cX5_standingOn 33 = .ok (.iload_n 2, 1)) ∧ (decode cX5_standingOn 34 = .ok (.if_icmp .ne 21, 3)) ∧ (decode cX5_standingOn 37 = .ok (.aload_n 0, 1)) ∧ (decode cX5_standingOn 38 = .ok (.getfield 11, 3)) ∧ (decode cX5_standingOn 41 = .ok (.iload_n 3, 1)) ∧ (decode cX5_standingOn 42 = .ok (.aaload, 1)) ∧ (decode cX5_standingOn 43 = .ok (.iload_n 1, 1)) ∧ (decode cX5_standingOn 44 = .ok (.bipush 100, 2)) ∧ True := dkW [(25, .getfield 11, 3), (28, .iload_n 3, 1), (29, .aaload, 1), (30, .getfield 81, 3), (33, .iload_n 2, 1), (34, .if_icmp .ne 21, 3), (37, .aload_n 0, 1), (38, .getfield 11, 3), (41, .iload_n 3, 1), (42, .aaload, 1), (43, .iload_n 1, 1), (44, .bipush 100, 2)] 25 (by decide +kernel)
theorem dX5_standingOn_25 : decode cX5_standingOn 25 = .ok (.getfield 11, 3) := dgX5_standingOn_25.1
theorem dX5_standingOn_28 : decode cX5_standingOn 28 = .ok (.iload_n 3, 1) := dgX5_standingOn_25.2.1
theorem dX5_standingOn_29 : decode cX5_standingOn 29 = .ok (.aaload, 1) := dgX5_standingOn_25.2.2.1
theorem dX5_standingOn_30 : decode cX5_standingOn 30 = .ok (.getfield 81, 3) := dgX5_standingOn_25.2.2.2.1
theorem dX5_standingOn_33 : decode cX5_standingOn 33 = .ok (.iload_n 2, 1) := dgX5_standingOn_25.2.2.2.2.1
theorem dX5_standingOn_34 : decode cX5_standingOn 34 = .ok (.if_icmp .ne 21, 3) := dgX5_standingOn_25.2.2.2.2.2.1
theorem dX5_standingOn_37 : decode cX5_standingOn 37 = .ok (.aload_n 0, 1) := dgX5_standingOn_25.2.2.2.2.2.2.1
theorem dX5_standingOn_38 : decode cX5_standingOn 38 = .ok (.getfield 11, 3) := dgX5_standingOn_25.2.2.2.2.2.2.2.1
theorem dX5_standingOn_41 : decode cX5_standingOn 41 = .ok (.iload_n 3, 1) := dgX5_standingOn_25.2.2.2.2.2.2.2.2.1
theorem dX5_standingOn_42 : decode cX5_standingOn 42 = .ok (.aaload, 1) := dgX5_standingOn_25.2.2.2.2.2.2.2.2.2.1
theorem dX5_standingOn_43 : decode cX5_standingOn 43 = .ok (.iload_n 1, 1) := dgX5_standingOn_25.2.2.2.2.2.2.2.2.2.2.1
theorem dX5_standingOn_44 : decode cX5_standingOn 44 = .ok (.bipush 100, 2) := dgX5_standingOn_25.2.2.2.2.2.2.2.2.2.2.2.1
theorem dgX5_standingOn_46 : (decode cX5_standingOn 46 = .ok (.irem, 1)) ∧ (decode cX5_standingOn 47 = .ok (.invokevirtual 84, 3)) ∧ (decode cX5_standingOn 50 = .ok (.ifCond .eq 5, 3)) ∧ (decode cX5_standingOn 53 = .ok (.iload_n 3, 1)) ∧ (decode cX5_standingOn 54 = .ok (.ireturn, 1)) ∧ (decode cX5_standingOn 55 = .ok (.iinc 3 1, 3)) ∧ (decode cX5_standingOn 58 = .ok (.goto (-42), 3)) ∧ (decode cX5_standingOn 61 = .ok (.bipush (-2), 2)) ∧ (decode cX5_standingOn 63 = .ok (.ireturn, 1)) ∧ True := dkW [(46, .irem, 1), (47, .invokevirtual 84, 3), (50, .ifCond .eq 5, 3), (53, .iload_n 3, 1), (54, .ireturn, 1), (55, .iinc 3 1, 3), (58, .goto (-42), 3), (61, .bipush (-2), 2), (63, .ireturn, 1)] 46 (by decide +kernel)
theorem dX5_standingOn_46 : decode cX5_standingOn 46 = .ok (.irem, 1) := dgX5_standingOn_46.1
theorem dX5_standingOn_47 : decode cX5_standingOn 47 = .ok (.invokevirtual 84, 3) := dgX5_standingOn_46.2.1
theorem dX5_standingOn_50 : decode cX5_standingOn 50 = .ok (.ifCond .eq 5, 3) := dgX5_standingOn_46.2.2.1
theorem dX5_standingOn_53 : decode cX5_standingOn 53 = .ok (.iload_n 3, 1) := dgX5_standingOn_46.2.2.2.1
theorem dX5_standingOn_54 : decode cX5_standingOn 54 = .ok (.ireturn, 1) := dgX5_standingOn_46.2.2.2.2.1
theorem dX5_standingOn_55 : decode cX5_standingOn 55 = .ok (.iinc 3 1, 3) := dgX5_standingOn_46.2.2.2.2.2.1
theorem dX5_standingOn_58 : decode cX5_standingOn 58 = .ok (.goto (-42), 3) := dgX5_standingOn_46.2.2.2.2.2.2.1
theorem dX5_standingOn_61 : decode cX5_standingOn 61 = .ok (.bipush (-2), 2) := dgX5_standingOn_46.2.2.2.2.2.2.2.1
theorem dX5_standingOn_63 : decode cX5_standingOn 63 = .ok (.ireturn, 1) := dgX5_standingOn_46.2.2.2.2.2.2.2.2.1
abbrev rmX5_standingOn : Room := { frames := 2, cells := 0, slots := 0, locals := 42 }
noncomputable def fX5_standingOn_b55 (N : Nat) (g16 : Hs → Int32 → Int32 → Int32 → Option (Int32 × Hs)) (t : Nat) (h : Hs) (x1 : Int32) (x2 : Int32) (x3 : Int32) : Option (Int32 × Hs) :=
  (some (x3 + 1)).bind fun y1 =>
  g16 h x1 x2 y1
set_option maxHeartbeats 4000000 in
set_option maxRecDepth 20000 in
theorem wX5_standingOn_b55 {p : Program} {l : Launch} {e : Env} {s : State} {m : MethodId} {args : Array Value} {below : List Frame} {meth : Method} {c : Code} {G : Gl} {N : Nat} {h : Hs} {r : Int32 × Hs} {g16 : Hs → Int32 → Int32 → Int32 → Option (Int32 × Hs)} {t : Nat} {x1 : Int32} {x2 : Int32} {x3 : Int32} (C : Cx p s m args meth c cX5_standingOn RX5 4 G) (hret : meth.sig.returnType = (some .int)) (hg16 : ∀ (h : Hs) (x1 : Int32) (x2 : Int32) (x3 : Int32), g16 h x1 x2 x3 = some r → V p l e rmX5_standingOn s m args below meth c G 4 (MQ below (QcG G (some (.inl r.1)) r.2) args s rmX5_standingOn.cells rmX5_standingOn.slots (AG G)) h 0 0 16 [some (.inr (some t)), some (.inl x1), some (.inl x2), some (.inl x3)] []) (hf : fX5_standingOn_b55 N g16 t h x1 x2 x3 = some r) : V p l e rmX5_standingOn s m args below meth c G 4 (MQ below (QcG G (some (.inl r.1)) r.2) args s rmX5_standingOn.cells rmX5_standingOn.slots (AG G)) h 0 0 55 [some (.inr (some t)), some (.inl x1), some (.inl x2), some (.inl x3)] [] := by
  unfold fX5_standingOn_b55 at hf
  obtain ⟨y1, ey1, hf⟩ := bS hf
  refine r_iincE (v := 1) C dX5_standingOn_55 rfl (by decide) (by decide) ey1 ?_
  refine r_goto (tgt := 16) C dX5_standingOn_58 (by decide) ?_
  exact V.sub (hg16 _ _ _ _ hf) (LW_s rfl (LW_s rfl (LW_s rfl (LW_s rfl (LW_e)))))
noncomputable def fX5_standingOn_b16_body (N : Nat)  (g16 : Hs → Int32 → Int32 → Int32 → Option (Int32 × Hs)) (t : Nat) (h : Hs) (x1 : Int32) (x2 : Int32) (x3 : Int32) : Option (Int32 × Hs) :=
  (oI 5 7 h (some t)).bind fun v1 =>
  if v1 ≤ x3 then (
  some ((-2), h))
  else (oR 5 0 h (some t)).bind fun o2 =>
  (lQ 23 h o2 x3).bind fun o3 =>
  (oI 9 1 h o3).bind fun v4 =>
  if v4 = x2 then (
  (oR 5 0 h (some t)).bind fun o5 =>
  (lQ 23 h o5 x3).bind fun o6 =>
  (rc 9 h o6).bind fun a8 =>
  (fX9_covers N h a8 (x1 - x1 / 100 * 100)).bind fun r7 =>
  if r7.1 = 0 then (
  fX5_standingOn_b55 N g16 t r7.2 x1 x2 x3)
  else some (x3, r7.2))
  else fX5_standingOn_b55 N g16 t h x1 x2 x3
noncomputable def fX5_standingOn_b16 (N : Nat)  (t : Nat) (n : Nat) : Hs → Int32 → Int32 → Int32 → Option (Int32 × Hs) := lp (fun _ _ _ _ => none) (fun g h x1 x2 x3 => fX5_standingOn_b16_body N  g t h x1 x2 x3) n
set_option maxHeartbeats 4000000 in
set_option maxRecDepth 20000 in
theorem wX5_standingOn_b16_body {p : Program} {l : Launch} {e : Env} {s : State} {m : MethodId} {args : Array Value} {below : List Frame} {meth : Method} {c : Code} {G : Gl} {N : Nat} {h : Hs} {r : Int32 × Hs}  {g16 : Hs → Int32 → Int32 → Int32 → Option (Int32 × Hs)} {t : Nat} {x1 : Int32} {x2 : Int32} {x3 : Int32} (C : Cx p s m args meth c cX5_standingOn RX5 4 G) (hret : meth.sig.returnType = (some .int))  (hg16 : ∀ (h : Hs) (x1 : Int32) (x2 : Int32) (x3 : Int32), g16 h x1 x2 x3 = some r → V p l e rmX5_standingOn s m args below meth c G 4 (MQ below (QcG G (some (.inl r.1)) r.2) args s rmX5_standingOn.cells rmX5_standingOn.slots (AG G)) h 0 0 16 [some (.inr (some t)), some (.inl x1), some (.inl x2), some (.inl x3)] []) (hf : fX5_standingOn_b16_body N  g16 t h x1 x2 x3 = some r) : V p l e rmX5_standingOn s m args below meth c G 4 (MQ below (QcG G (some (.inl r.1)) r.2) args s rmX5_standingOn.cells rmX5_standingOn.slots (AG G)) h 0 0 16 [some (.inr (some t)), some (.inl x1), some (.inl x2), some (.inl x3)] [] := by
  unfold fX5_standingOn_b16_body at hf
  refine r_iload_n C dX5_standingOn_16 rfl ?_
  refine r_aload_n C dX5_standingOn_17 rfl ?_
  obtain ⟨v1, ev1, hf⟩ := bS hf
  refine r_getI C dX5_standingOn_18 fl_X5_47 rfl ev1 ?_
  refine r_icmp_ge (tgt := 61) C dX5_standingOn_21 (by decide) (fun hc => ?_) (fun hc => ?_)
  · have hf := ifT hf hc
    refine r_bipush (v := -2) C dX5_standingOn_61 (by decide) ?_
    exact r_iretF C dX5_standingOn_63 hret hf (by decide) (by decide)
  · have hf := ifF hf hc
    refine r_aload_n C dX5_standingOn_24 rfl ?_
    obtain ⟨o2, eo2, hf⟩ := bS hf
    refine r_getR C dX5_standingOn_25 fl_X5_11 rfl eo2 ?_
    refine r_iload_n C dX5_standingOn_28 rfl ?_
    obtain ⟨o3, eo3, hf⟩ := bS hf
    refine r_qald (t := 3) C dX5_standingOn_29 (by decide) (by decide) rfl eo3 ?_
    obtain ⟨v4, ev4, hf⟩ := bS hf
    refine r_getI C dX5_standingOn_30 fl_X5_81 rfl ev4 ?_
    refine r_iload_n C dX5_standingOn_33 rfl ?_
    refine r_icmp_ne (tgt := 55) C dX5_standingOn_34 (by decide) (fun hc => ?_) (fun hc => ?_)
    · have hf := ifF hf hc
      exact V.sub (wX5_standingOn_b55 C hret hg16 hf) (LW_s rfl (LW_s rfl (LW_s rfl (LW_s rfl (LW_e)))))
    · have hf := ifT hf hc
      refine r_aload_n C dX5_standingOn_37 rfl ?_
      obtain ⟨o5, eo5, hf⟩ := bS hf
      refine r_getR C dX5_standingOn_38 fl_X5_11 rfl eo5 ?_
      refine r_iload_n C dX5_standingOn_41 rfl ?_
      obtain ⟨o6, eo6, hf⟩ := bS hf
      refine r_qald (t := 3) C dX5_standingOn_42 (by decide) (by decide) rfl eo6 ?_
      refine r_iload_n C dX5_standingOn_43 rfl ?_
      refine r_bipush (v := 100) C dX5_standingOn_44 (by decide) ?_
      refine r_iremK C dX5_standingOn_46 (by decide) ?_
      obtain ⟨a8, ea8, hf⟩ := bS hf
      obtain ⟨r7, er7, hf⟩ := bS hf
      refine r_invV1 (As := [.inl (x1 - x1 / 100 * 100)]) (ci := 9) C dX5_standingOn_47 mcX9_covers wd_388 wd_389 wd_390 rfl rfl (by decide) ⟨by decide, by decide⟩ ⟨by decide, by decide⟩ rfl (Nat.le_of_ble_eq_true rfl) ea8 (kX9_covers l G er7) ?_
      refine r_if_eq (tgt := 55) C dX5_standingOn_50 (by decide) (fun hc => ?_) (fun hc => ?_)
      · have hf := ifT hf hc
        exact V.sub (wX5_standingOn_b55 C hret hg16 hf) (LW_s rfl (LW_s rfl (LW_s rfl (LW_s rfl (LW_e)))))
      · have hf := ifF hf hc
        refine r_iload_n C dX5_standingOn_53 rfl ?_
        exact r_iretF C dX5_standingOn_54 hret hf (by decide) (by decide)
theorem wX5_standingOn_b16 {p : Program} {l : Launch} {e : Env} {s : State} {m : MethodId} {args : Array Value} {below : List Frame} {meth : Method} {c : Code} {G : Gl} {N : Nat} {r : Int32 × Hs}  {t : Nat} (C : Cx p s m args meth c cX5_standingOn RX5 4 G) (hret : meth.sig.returnType = (some .int))  : ∀ (n : Nat) (h : Hs) (x1 : Int32) (x2 : Int32) (x3 : Int32), fX5_standingOn_b16 N  t n h x1 x2 x3 = some r → V p l e rmX5_standingOn s m args below meth c G 4 (MQ below (QcG G (some (.inl r.1)) r.2) args s rmX5_standingOn.cells rmX5_standingOn.slots (AG G)) h 0 0 16 [some (.inr (some t)), some (.inl x1), some (.inl x2), some (.inl x3)] [] := by
  intro n
  induction n with
  | zero => intro h x1 x2 x3 hf; exact absurd (show (none : Option (Int32 × Hs)) = some r from hf) (fun q => by cases q)
  | succ n ih => intro h x1 x2 x3 hf; exact wX5_standingOn_b16_body C hret  ih (show fX5_standingOn_b16_body N  (fX5_standingOn_b16 N  t n) t h x1 x2 x3 = some r from hf)
noncomputable def fX5_standingOn (N : Nat) (h : Hs) (t : Nat) (p1 : Int32) : Option (Int32 × Hs) :=
  (fX5_isStagePlace N h p1).bind fun r1 =>
  if r1.1 = 0 then (
  some ((-1), r1.2))
  else (some (p1 / 100)).bind fun y2 =>
  fX5_standingOn_b16 N t N r1.2 p1 y2 0
set_option maxHeartbeats 4000000 in
set_option maxRecDepth 20000 in
theorem kX5_standingOn (l : Launch) (G : Gl) {N : Nat} {h : Hs} {t : Nat} {p1 : Int32} {r : Int32 × Hs} (hf : fX5_standingOn N h t p1 = some r) : CT l G yX5_standingOn cX5_standingOn 4 (some .int) rmX5_standingOn [.inr (some t), .inl p1] h (some (.inl r.1)) r.2 := by
  refine mk_CT (by decide) (Nat.le_of_ble_eq_true rfl) ?_
  intro p e s m args below meth c C hret hin
  unfold fX5_standingOn at hf
  refine r_iload_n C dX5_standingOn_0 rfl ?_
  obtain ⟨r1, er1, hf⟩ := bS hf
  refine r_invS1 (As := [.inl p1]) C dX5_standingOn_1 mcX5_isStagePlace wd_293 wd_294 ⟨by decide, by decide⟩ ⟨by decide, by decide⟩ rfl (Nat.le_of_ble_eq_true rfl) (kX5_isStagePlace l G er1) ?_
  refine r_if_ne (tgt := 9) C dX5_standingOn_4 (by decide) (fun hc => ?_) (fun hc => ?_)
  · have hf := ifF hf hc
    refine r_iload_n C dX5_standingOn_9 rfl ?_
    refine r_bipush (v := 100) C dX5_standingOn_10 (by decide) ?_
    refine r_idivK C dX5_standingOn_12 (by decide) ?_
    obtain ⟨y2, ey2, hf⟩ := bS hf
    refine r_istore_nE C dX5_standingOn_13 (by decide) ey2 ?_
    refine r_iconst (v := 0) C dX5_standingOn_14 (by decide) ?_
    refine r_istore_n C dX5_standingOn_15 (by decide) ?_
    exact V.sub (wX5_standingOn_b16 C hret N _ _ _ _ hf) (LW_s rfl (LW_s rfl (LW_s rfl (LW_s rfl (LW_e)))))
  · have hf := ifT hf hc
    refine r_iconst (v := -1) C dX5_standingOn_7 (by decide) ?_
    exact r_iretF C dX5_standingOn_8 hret hf (by decide) (by decide)

theorem dgX5_tieRope_0 : (decode cX5_tieRope 0 = .ok (.aload_n 0, 1)) ∧ (decode cX5_tieRope 1 = .ok (.iload_n 1, 1)) ∧ (decode cX5_tieRope 2 = .ok (.invokevirtual 97, 3)) ∧ (decode cX5_tieRope 5 = .ok (.astore_n 3, 1)) ∧ (decode cX5_tieRope 6 = .ok (.aload_n 0, 1)) ∧ (decode cX5_tieRope 7 = .ok (.iload_n 2, 1)) ∧ (decode cX5_tieRope 8 = .ok (.invokevirtual 101, 3)) ∧ (decode cX5_tieRope 11 = .ok (.astore 4, 2)) ∧ (decode cX5_tieRope 13 = .ok (.aload_n 3, 1)) ∧ (decode cX5_tieRope 14 = .ok (.ifnull 8, 3)) ∧ (decode cX5_tieRope 17 = .ok (.aload 4, 2)) ∧ (decode cX5_tieRope 19 = .ok (.ifnonnull 5, 3)) ∧ True := dkW [(0, .aload_n 0, 1), (1, .iload_n 1, 1), (2, .invokevirtual 97, 3), (5, .astore_n 3, 1), (6, .aload_n 0, 1), (7, .iload_n 2, 1), (8, .invokevirtual 101, 3), (11, .astore 4, 2), (13, .aload_n 3, 1), (14, .ifnull 8, 3), (17, .aload 4, 2), (19, .ifnonnull 5, 3)] 0 (by decide +kernel)
theorem dX5_tieRope_0 : decode cX5_tieRope 0 = .ok (.aload_n 0, 1) := dgX5_tieRope_0.1
theorem dX5_tieRope_1 : decode cX5_tieRope 1 = .ok (.iload_n 1, 1) := dgX5_tieRope_0.2.1
theorem dX5_tieRope_2 : decode cX5_tieRope 2 = .ok (.invokevirtual 97, 3) := dgX5_tieRope_0.2.2.1
theorem dX5_tieRope_5 : decode cX5_tieRope 5 = .ok (.astore_n 3, 1) := dgX5_tieRope_0.2.2.2.1
theorem dX5_tieRope_6 : decode cX5_tieRope 6 = .ok (.aload_n 0, 1) := dgX5_tieRope_0.2.2.2.2.1
theorem dX5_tieRope_7 : decode cX5_tieRope 7 = .ok (.iload_n 2, 1) := dgX5_tieRope_0.2.2.2.2.2.1
theorem dX5_tieRope_8 : decode cX5_tieRope 8 = .ok (.invokevirtual 101, 3) := dgX5_tieRope_0.2.2.2.2.2.2.1
theorem dX5_tieRope_11 : decode cX5_tieRope 11 = .ok (.astore 4, 2) := dgX5_tieRope_0.2.2.2.2.2.2.2.1
theorem dX5_tieRope_13 : decode cX5_tieRope 13 = .ok (.aload_n 3, 1) := dgX5_tieRope_0.2.2.2.2.2.2.2.2.1
theorem dX5_tieRope_14 : decode cX5_tieRope 14 = .ok (.ifnull 8, 3) := dgX5_tieRope_0.2.2.2.2.2.2.2.2.2.1
theorem dX5_tieRope_17 : decode cX5_tieRope 17 = .ok (.aload 4, 2) := dgX5_tieRope_0.2.2.2.2.2.2.2.2.2.2.1
theorem dX5_tieRope_19 : decode cX5_tieRope 19 = .ok (.ifnonnull 5, 3) := dgX5_tieRope_0.2.2.2.2.2.2.2.2.2.2.2.1
theorem dX5_tieRope_22 : decode cX5_tieRope 22 = .ok (.iconst (-1), 1) := by decide +kernel
theorem dgX5_tieRope_23 : (decode cX5_tieRope 23 = .ok (.ireturn, 1)) ∧ (decode cX5_tieRope 24 = .ok (.aload_n 3, 1)) ∧ (decode cX5_tieRope 25 = .ok (.getfield 105, 3)) ∧ (decode cX5_tieRope 28 = .ok (.ifCond .ne 20, 3)) ∧ (decode cX5_tieRope 31 = .ok (.aload_n 3, 1)) ∧ (decode cX5_tieRope 32 = .ok (.getfield 109, 3)) ∧ (decode cX5_tieRope 35 = .ok (.getfield 113, 3)) ∧ (decode cX5_tieRope 38 = .ok (.ifnonnull 10, 3)) ∧ (decode cX5_tieRope 41 = .ok (.aload_n 3, 1)) ∧ (decode cX5_tieRope 42 = .ok (.invokevirtual 117, 3)) ∧ (decode cX5_tieRope 45 = .ok (.ifCond .ge 6, 3)) ∧ (decode cX5_tieRope 48 = .ok (.bipush (-2), 2)) ∧ True := dkW [(23, .ireturn, 1), (24, .aload_n 3, 1), (25, .getfield 105, 3), (28, .ifCond .ne 20, 3), (31, .aload_n 3, 1), (32, .getfield 109, 3), (35, .getfield 113, 3), (38, .ifnonnull 10, 3), (41, .aload_n 3, 1), (42, .invokevirtual 117, 3), (45, .ifCond .ge 6, 3), (48, .bipush (-2), 2)] 23 (by decide +kernel)
theorem dX5_tieRope_23 : decode cX5_tieRope 23 = .ok (.ireturn, 1) := dgX5_tieRope_23.1
theorem dX5_tieRope_24 : decode cX5_tieRope 24 = .ok (.aload_n 3, 1) := dgX5_tieRope_23.2.1
theorem dX5_tieRope_25 : decode cX5_tieRope 25 = .ok (.getfield 105, 3) := dgX5_tieRope_23.2.2.1
theorem dX5_tieRope_28 : decode cX5_tieRope 28 = .ok (.ifCond .ne 20, 3) := dgX5_tieRope_23.2.2.2.1
theorem dX5_tieRope_31 : decode cX5_tieRope 31 = .ok (.aload_n 3, 1) := dgX5_tieRope_23.2.2.2.2.1
theorem dX5_tieRope_32 : decode cX5_tieRope 32 = .ok (.getfield 109, 3) := dgX5_tieRope_23.2.2.2.2.2.1
theorem dX5_tieRope_35 : decode cX5_tieRope 35 = .ok (.getfield 113, 3) := dgX5_tieRope_23.2.2.2.2.2.2.1
theorem dX5_tieRope_38 : decode cX5_tieRope 38 = .ok (.ifnonnull 10, 3) := dgX5_tieRope_23.2.2.2.2.2.2.2.1
theorem dX5_tieRope_41 : decode cX5_tieRope 41 = .ok (.aload_n 3, 1) := dgX5_tieRope_23.2.2.2.2.2.2.2.2.1
theorem dX5_tieRope_42 : decode cX5_tieRope 42 = .ok (.invokevirtual 117, 3) := dgX5_tieRope_23.2.2.2.2.2.2.2.2.2.1
theorem dX5_tieRope_45 : decode cX5_tieRope 45 = .ok (.ifCond .ge 6, 3) := dgX5_tieRope_23.2.2.2.2.2.2.2.2.2.2.1
theorem dX5_tieRope_48 : decode cX5_tieRope 48 = .ok (.bipush (-2), 2) := dgX5_tieRope_23.2.2.2.2.2.2.2.2.2.2.2.1
theorem dgX5_tieRope_50 : (decode cX5_tieRope 50 = .ok (.ireturn, 1)) ∧ (decode cX5_tieRope 51 = .ok (.aload_n 3, 1)) ∧ (decode cX5_tieRope 52 = .ok (.aload 4, 2)) ∧ (decode cX5_tieRope 54 = .ok (.invokevirtual 121, 3)) ∧ (decode cX5_tieRope 57 = .ok (.aload_n 3, 1)) ∧ (decode cX5_tieRope 58 = .ok (.invokevirtual 117, 3)) ∧ (decode cX5_tieRope 61 = .ok (.ireturn, 1)) ∧ True := dkW [(50, .ireturn, 1), (51, .aload_n 3, 1), (52, .aload 4, 2), (54, .invokevirtual 121, 3), (57, .aload_n 3, 1), (58, .invokevirtual 117, 3), (61, .ireturn, 1)] 50 (by decide +kernel)
theorem dX5_tieRope_50 : decode cX5_tieRope 50 = .ok (.ireturn, 1) := dgX5_tieRope_50.1
theorem dX5_tieRope_51 : decode cX5_tieRope 51 = .ok (.aload_n 3, 1) := dgX5_tieRope_50.2.1
theorem dX5_tieRope_52 : decode cX5_tieRope 52 = .ok (.aload 4, 2) := dgX5_tieRope_50.2.2.1
theorem dX5_tieRope_54 : decode cX5_tieRope 54 = .ok (.invokevirtual 121, 3) := dgX5_tieRope_50.2.2.2.1
theorem dX5_tieRope_57 : decode cX5_tieRope 57 = .ok (.aload_n 3, 1) := dgX5_tieRope_50.2.2.2.2.1
theorem dX5_tieRope_58 : decode cX5_tieRope 58 = .ok (.invokevirtual 117, 3) := dgX5_tieRope_50.2.2.2.2.2.1
theorem dX5_tieRope_61 : decode cX5_tieRope 61 = .ok (.ireturn, 1) := dgX5_tieRope_50.2.2.2.2.2.2.1
abbrev rmX5_tieRope : Room := { frames := 3, cells := 0, slots := 0, locals := 61 }
noncomputable def fX5_tieRope_b22 (N : Nat)  (t : Nat) (h : Hs)  : Option (Int32 × Hs) :=
  some ((-1), h)
set_option maxHeartbeats 4000000 in
set_option maxRecDepth 20000 in
theorem wX5_tieRope_b22 {p : Program} {l : Launch} {e : Env} {s : State} {m : MethodId} {args : Array Value} {below : List Frame} {meth : Method} {c : Code} {G : Gl} {N : Nat} {h : Hs} {r : Int32 × Hs}  {t : Nat}  (C : Cx p s m args meth c cX5_tieRope RX5 5 G) (hret : meth.sig.returnType = (some .int))  (hf : fX5_tieRope_b22 N  t h  = some r) : V p l e rmX5_tieRope s m args below meth c G 5 (MQ below (QcG G (some (.inl r.1)) r.2) args s rmX5_tieRope.cells rmX5_tieRope.slots (AG G)) h 0 0 22 [some (.inr (some t)), none, none, none, none] [] := by
  unfold fX5_tieRope_b22 at hf
  refine r_iconst (v := -1) C dX5_tieRope_22 (by decide) ?_
  exact r_iretF C dX5_tieRope_23 hret hf (by decide) (by decide)
noncomputable def fX5_tieRope_b48 (N : Nat)  (t : Nat) (h : Hs)  : Option (Int32 × Hs) :=
  some ((-2), h)
set_option maxHeartbeats 4000000 in
set_option maxRecDepth 20000 in
theorem wX5_tieRope_b48 {p : Program} {l : Launch} {e : Env} {s : State} {m : MethodId} {args : Array Value} {below : List Frame} {meth : Method} {c : Code} {G : Gl} {N : Nat} {h : Hs} {r : Int32 × Hs}  {t : Nat}  (C : Cx p s m args meth c cX5_tieRope RX5 5 G) (hret : meth.sig.returnType = (some .int))  (hf : fX5_tieRope_b48 N  t h  = some r) : V p l e rmX5_tieRope s m args below meth c G 5 (MQ below (QcG G (some (.inl r.1)) r.2) args s rmX5_tieRope.cells rmX5_tieRope.slots (AG G)) h 0 0 48 [some (.inr (some t)), none, none, none, none] [] := by
  unfold fX5_tieRope_b48 at hf
  refine r_bipush (v := -2) C dX5_tieRope_48 (by decide) ?_
  exact r_iretF C dX5_tieRope_50 hret hf (by decide) (by decide)
noncomputable def fX5_tieRope (N : Nat) (h : Hs) (t : Nat) (p1 : Int32) (p2 : Int32) : Option (Int32 × Hs) :=
  (rc 5 h (some t)).bind fun a2 =>
  (fX5_ropeNumbered N h a2 p1).bind fun r1 =>
  (rc 5 r1.2 (some t)).bind fun a4 =>
  (fX5_drumNumbered N r1.2 a4 p2).bind fun r3 =>
  if r1.1 = none then (
  fX5_tieRope_b22 N t r3.2)
  else if r3.1 = none then (
  fX5_tieRope_b22 N t r3.2)
  else (oI 4 8 r3.2 r1.1).bind fun v5 =>
  if v5 = 0 then (
  (oR 4 1 r3.2 r1.1).bind fun o6 =>
  (oR 9 9 r3.2 o6).bind fun o7 =>
  if o7 = none then (
  (rc 4 r3.2 r1.1).bind fun a9 =>
  (fX4_spare N r3.2 a9 ).bind fun r8 =>
  if 0 ≤ r8.1 then (
  (rc 4 r8.2 r1.1).bind fun a11 =>
  (fX4_bind N r8.2 a11 r3.1).bind fun r10 =>
  (rc 4 r10 r1.1).bind fun a13 =>
  (fX4_spare N r10 a13 ).bind fun r12 =>
  some (r12.1, r12.2))
  else fX5_tieRope_b48 N t r8.2)
  else fX5_tieRope_b48 N t r3.2)
  else fX5_tieRope_b48 N t r3.2
set_option maxHeartbeats 4000000 in
set_option maxRecDepth 20000 in
theorem kX5_tieRope (l : Launch) (G : Gl) {N : Nat} {h : Hs} {t : Nat} {p1 : Int32} {p2 : Int32} {r : Int32 × Hs} (hf : fX5_tieRope N h t p1 p2 = some r) : CT l G yX5_tieRope cX5_tieRope 5 (some .int) rmX5_tieRope [.inr (some t), .inl p1, .inl p2] h (some (.inl r.1)) r.2 := by
  refine mk_CT (by decide) (Nat.le_of_ble_eq_true rfl) ?_
  intro p e s m args below meth c C hret hin
  unfold fX5_tieRope at hf
  refine r_aload_n C dX5_tieRope_0 rfl ?_
  refine r_iload_n C dX5_tieRope_1 rfl ?_
  obtain ⟨a2, ea2, hf⟩ := bS hf
  obtain ⟨r1, er1, hf⟩ := bS hf
  refine r_invV1 (As := [.inl p1]) (ci := 5) C dX5_tieRope_2 mcX5_ropeNumbered wd_509 wd_485 wd_486 rfl rfl (by decide) ⟨by decide, by decide⟩ ⟨by decide, by decide⟩ rfl (Nat.le_of_ble_eq_true rfl) ea2 (kX5_ropeNumbered l G er1) ?_
  refine r_astore_n C dX5_tieRope_5 (by decide) ?_
  refine r_aload_n C dX5_tieRope_6 rfl ?_
  refine r_iload_n C dX5_tieRope_7 rfl ?_
  obtain ⟨a4, ea4, hf⟩ := bS hf
  obtain ⟨r3, er3, hf⟩ := bS hf
  refine r_invV1 (As := [.inl p2]) (ci := 5) C dX5_tieRope_8 mcX5_drumNumbered wd_510 wd_511 wd_512 rfl rfl (by decide) ⟨by decide, by decide⟩ ⟨by decide, by decide⟩ rfl (Nat.le_of_ble_eq_true rfl) ea4 (kX5_drumNumbered l G er3) ?_
  refine r_astore C dX5_tieRope_11 (by decide) ?_
  refine r_aload_n C dX5_tieRope_13 rfl ?_
  refine r_ifnull (tgt := 22) C dX5_tieRope_14 (by decide) (fun hc => ?_) (fun hc => ?_)
  · have hf := ifT hf hc
    exact V.sub (wX5_tieRope_b22 C hret hf) (LW_s rfl (LW_n (LW_n (LW_n (LW_n (LW_e))))))
  · have hf := ifF hf hc
    refine r_aload C dX5_tieRope_17 rfl ?_
    refine r_ifnonnull (tgt := 24) C dX5_tieRope_19 (by decide) (fun hc => ?_) (fun hc => ?_)
    · have hf := ifF hf hc
      refine r_aload_n C dX5_tieRope_24 rfl ?_
      obtain ⟨v5, ev5, hf⟩ := bS hf
      refine r_getI C dX5_tieRope_25 fl_X5_105 rfl ev5 ?_
      refine r_if_ne (tgt := 48) C dX5_tieRope_28 (by decide) (fun hc => ?_) (fun hc => ?_)
      · have hf := ifF hf hc
        exact V.sub (wX5_tieRope_b48 C hret hf) (LW_s rfl (LW_n (LW_n (LW_n (LW_n (LW_e))))))
      · have hf := ifT hf hc
        refine r_aload_n C dX5_tieRope_31 rfl ?_
        obtain ⟨o6, eo6, hf⟩ := bS hf
        refine r_getR C dX5_tieRope_32 fl_X5_109 rfl eo6 ?_
        obtain ⟨o7, eo7, hf⟩ := bS hf
        refine r_getR C dX5_tieRope_35 fl_X5_113 rfl eo7 ?_
        refine r_ifnonnull (tgt := 48) C dX5_tieRope_38 (by decide) (fun hc => ?_) (fun hc => ?_)
        · have hf := ifF hf hc
          exact V.sub (wX5_tieRope_b48 C hret hf) (LW_s rfl (LW_n (LW_n (LW_n (LW_n (LW_e))))))
        · have hf := ifT hf hc
          refine r_aload_n C dX5_tieRope_41 rfl ?_
          obtain ⟨a9, ea9, hf⟩ := bS hf
          obtain ⟨r8, er8, hf⟩ := bS hf
          refine r_invV1 (As := []) (ci := 4) C dX5_tieRope_42 mcX4_spare wd_514 wd_515 wd_516 rfl rfl (by decide) ⟨by decide, by decide⟩ ⟨by decide, by decide⟩ rfl (Nat.le_of_ble_eq_true rfl) ea9 (kX4_spare l G er8) ?_
          refine r_if_ge (tgt := 51) C dX5_tieRope_45 (by decide) (fun hc => ?_) (fun hc => ?_)
          · have hf := ifT hf hc
            refine r_aload_n C dX5_tieRope_51 rfl ?_
            refine r_aload C dX5_tieRope_52 rfl ?_
            obtain ⟨a11, ea11, hf⟩ := bS hf
            obtain ⟨r10, er10, hf⟩ := bS hf
            refine r_invV0 (As := [.inr r3.1]) (ci := 4) C dX5_tieRope_54 mcX4_bind wd_518 wd_519 wd_520 rfl rfl (by decide) ⟨by decide, by decide⟩ ⟨by decide, by decide⟩ rfl (Nat.le_of_ble_eq_true rfl) ea11 (kX4_bind l G er10) ?_
            refine r_aload_n C dX5_tieRope_57 rfl ?_
            obtain ⟨a13, ea13, hf⟩ := bS hf
            obtain ⟨r12, er12, hf⟩ := bS hf
            refine r_invV1 (As := []) (ci := 4) C dX5_tieRope_58 mcX4_spare wd_514 wd_515 wd_516 rfl rfl (by decide) ⟨by decide, by decide⟩ ⟨by decide, by decide⟩ rfl (Nat.le_of_ble_eq_true rfl) ea13 (kX4_spare l G er12) ?_
            exact r_iretF C dX5_tieRope_61 hret hf (by decide) (by decide)
          · have hf := ifF hf hc
            exact V.sub (wX5_tieRope_b48 C hret hf) (LW_s rfl (LW_n (LW_n (LW_n (LW_n (LW_e))))))
    · have hf := ifT hf hc
      exact V.sub (wX5_tieRope_b22 C hret hf) (LW_s rfl (LW_n (LW_n (LW_n (LW_n (LW_e))))))

theorem dgX5_untieRope_0 : (decode cX5_untieRope 0 = .ok (.aload_n 0, 1)) ∧ (decode cX5_untieRope 1 = .ok (.iload_n 1, 1)) ∧ (decode cX5_untieRope 2 = .ok (.invokevirtual 97, 3)) ∧ (decode cX5_untieRope 5 = .ok (.astore_n 2, 1)) ∧ (decode cX5_untieRope 6 = .ok (.aload_n 2, 1)) ∧ (decode cX5_untieRope 7 = .ok (.ifnull 10, 3)) ∧ (decode cX5_untieRope 10 = .ok (.aload_n 2, 1)) ∧ (decode cX5_untieRope 11 = .ok (.getfield 125, 3)) ∧ (decode cX5_untieRope 14 = .ok (.ifnonnull 6, 3)) ∧ (decode cX5_untieRope 17 = .ok (.ldc 129, 2)) ∧ (decode cX5_untieRope 19 = .ok (.ireturn, 1)) ∧ (decode cX5_untieRope 20 = .ok (.aload_n 2, 1)) ∧ True := dkW [(0, .aload_n 0, 1), (1, .iload_n 1, 1), (2, .invokevirtual 97, 3), (5, .astore_n 2, 1), (6, .aload_n 2, 1), (7, .ifnull 10, 3), (10, .aload_n 2, 1), (11, .getfield 125, 3), (14, .ifnonnull 6, 3), (17, .ldc 129, 2), (19, .ireturn, 1), (20, .aload_n 2, 1)] 0 (by decide +kernel)
theorem dX5_untieRope_0 : decode cX5_untieRope 0 = .ok (.aload_n 0, 1) := dgX5_untieRope_0.1
theorem dX5_untieRope_1 : decode cX5_untieRope 1 = .ok (.iload_n 1, 1) := dgX5_untieRope_0.2.1
theorem dX5_untieRope_2 : decode cX5_untieRope 2 = .ok (.invokevirtual 97, 3) := dgX5_untieRope_0.2.2.1
theorem dX5_untieRope_5 : decode cX5_untieRope 5 = .ok (.astore_n 2, 1) := dgX5_untieRope_0.2.2.2.1
theorem dX5_untieRope_6 : decode cX5_untieRope 6 = .ok (.aload_n 2, 1) := dgX5_untieRope_0.2.2.2.2.1
theorem dX5_untieRope_7 : decode cX5_untieRope 7 = .ok (.ifnull 10, 3) := dgX5_untieRope_0.2.2.2.2.2.1
theorem dX5_untieRope_10 : decode cX5_untieRope 10 = .ok (.aload_n 2, 1) := dgX5_untieRope_0.2.2.2.2.2.2.1
theorem dX5_untieRope_11 : decode cX5_untieRope 11 = .ok (.getfield 125, 3) := dgX5_untieRope_0.2.2.2.2.2.2.2.1
theorem dX5_untieRope_14 : decode cX5_untieRope 14 = .ok (.ifnonnull 6, 3) := dgX5_untieRope_0.2.2.2.2.2.2.2.2.1
theorem dX5_untieRope_17 : decode cX5_untieRope 17 = .ok (.ldc 129, 2) := dgX5_untieRope_0.2.2.2.2.2.2.2.2.2.1
theorem dX5_untieRope_19 : decode cX5_untieRope 19 = .ok (.ireturn, 1) := dgX5_untieRope_0.2.2.2.2.2.2.2.2.2.2.1
theorem dX5_untieRope_20 : decode cX5_untieRope 20 = .ok (.aload_n 2, 1) := dgX5_untieRope_0.2.2.2.2.2.2.2.2.2.2.2.1
theorem dgX5_untieRope_21 : (decode cX5_untieRope 21 = .ok (.getfield 130, 3)) ∧ (decode cX5_untieRope 24 = .ok (.istore_n 3, 1)) ∧ (decode cX5_untieRope 25 = .ok (.aload_n 2, 1)) ∧ (decode cX5_untieRope 26 = .ok (.invokevirtual 133, 3)) ∧ (decode cX5_untieRope 29 = .ok (.iload_n 3, 1)) ∧ (decode cX5_untieRope 30 = .ok (.ireturn, 1)) ∧ True := dkW [(21, .getfield 130, 3), (24, .istore_n 3, 1), (25, .aload_n 2, 1), (26, .invokevirtual 133, 3), (29, .iload_n 3, 1), (30, .ireturn, 1)] 21 (by decide +kernel)
theorem dX5_untieRope_21 : decode cX5_untieRope 21 = .ok (.getfield 130, 3) := dgX5_untieRope_21.1
theorem dX5_untieRope_24 : decode cX5_untieRope 24 = .ok (.istore_n 3, 1) := dgX5_untieRope_21.2.1
theorem dX5_untieRope_25 : decode cX5_untieRope 25 = .ok (.aload_n 2, 1) := dgX5_untieRope_21.2.2.1
theorem dX5_untieRope_26 : decode cX5_untieRope 26 = .ok (.invokevirtual 133, 3) := dgX5_untieRope_21.2.2.2.1
theorem dX5_untieRope_29 : decode cX5_untieRope 29 = .ok (.iload_n 3, 1) := dgX5_untieRope_21.2.2.2.2.1
theorem dX5_untieRope_30 : decode cX5_untieRope 30 = .ok (.ireturn, 1) := dgX5_untieRope_21.2.2.2.2.2.1
abbrev rmX5_untieRope : Room := { frames := 2, cells := 0, slots := 0, locals := 43 }
noncomputable def fX5_untieRope_b17 (N : Nat)  (t : Nat) (h : Hs)  : Option (Int32 × Hs) :=
  some ((-2000000000), h)
set_option maxHeartbeats 4000000 in
set_option maxRecDepth 20000 in
theorem wX5_untieRope_b17 {p : Program} {l : Launch} {e : Env} {s : State} {m : MethodId} {args : Array Value} {below : List Frame} {meth : Method} {c : Code} {G : Gl} {N : Nat} {h : Hs} {r : Int32 × Hs}  {t : Nat}  (C : Cx p s m args meth c cX5_untieRope RX5 4 G) (hret : meth.sig.returnType = (some .int))  (hf : fX5_untieRope_b17 N  t h  = some r) : V p l e rmX5_untieRope s m args below meth c G 4 (MQ below (QcG G (some (.inl r.1)) r.2) args s rmX5_untieRope.cells rmX5_untieRope.slots (AG G)) h 0 0 17 [some (.inr (some t)), none, none, none] [] := by
  unfold fX5_untieRope_b17 at hf
  refine r_ldc C dX5_untieRope_17 wd_530 ?_
  exact r_iretF C dX5_untieRope_19 hret hf (by decide) (by decide)
noncomputable def fX5_untieRope (N : Nat) (h : Hs) (t : Nat) (p1 : Int32) : Option (Int32 × Hs) :=
  (rc 5 h (some t)).bind fun a2 =>
  (fX5_ropeNumbered N h a2 p1).bind fun r1 =>
  if r1.1 = none then (
  fX5_untieRope_b17 N t r1.2)
  else (oR 4 5 r1.2 r1.1).bind fun o3 =>
  if o3 = none then (
  fX5_untieRope_b17 N t r1.2)
  else (oI 4 7 r1.2 r1.1).bind fun v4 =>
  (rc 4 r1.2 r1.1).bind fun a6 =>
  (fX4_loosen N r1.2 a6 ).bind fun r5 =>
  some (v4, r5)
set_option maxHeartbeats 4000000 in
set_option maxRecDepth 20000 in
theorem kX5_untieRope (l : Launch) (G : Gl) {N : Nat} {h : Hs} {t : Nat} {p1 : Int32} {r : Int32 × Hs} (hf : fX5_untieRope N h t p1 = some r) : CT l G yX5_untieRope cX5_untieRope 4 (some .int) rmX5_untieRope [.inr (some t), .inl p1] h (some (.inl r.1)) r.2 := by
  refine mk_CT (by decide) (Nat.le_of_ble_eq_true rfl) ?_
  intro p e s m args below meth c C hret hin
  unfold fX5_untieRope at hf
  refine r_aload_n C dX5_untieRope_0 rfl ?_
  refine r_iload_n C dX5_untieRope_1 rfl ?_
  obtain ⟨a2, ea2, hf⟩ := bS hf
  obtain ⟨r1, er1, hf⟩ := bS hf
  refine r_invV1 (As := [.inl p1]) (ci := 5) C dX5_untieRope_2 mcX5_ropeNumbered wd_509 wd_485 wd_486 rfl rfl (by decide) ⟨by decide, by decide⟩ ⟨by decide, by decide⟩ rfl (Nat.le_of_ble_eq_true rfl) ea2 (kX5_ropeNumbered l G er1) ?_
  refine r_astore_n C dX5_untieRope_5 (by decide) ?_
  refine r_aload_n C dX5_untieRope_6 rfl ?_
  refine r_ifnull (tgt := 17) C dX5_untieRope_7 (by decide) (fun hc => ?_) (fun hc => ?_)
  · have hf := ifT hf hc
    exact V.sub (wX5_untieRope_b17 C hret hf) (LW_s rfl (LW_n (LW_n (LW_n (LW_e)))))
  · have hf := ifF hf hc
    refine r_aload_n C dX5_untieRope_10 rfl ?_
    obtain ⟨o3, eo3, hf⟩ := bS hf
    refine r_getR C dX5_untieRope_11 fl_X5_125 rfl eo3 ?_
    refine r_ifnonnull (tgt := 20) C dX5_untieRope_14 (by decide) (fun hc => ?_) (fun hc => ?_)
    · have hf := ifF hf hc
      refine r_aload_n C dX5_untieRope_20 rfl ?_
      obtain ⟨v4, ev4, hf⟩ := bS hf
      refine r_getI C dX5_untieRope_21 fl_X5_130 rfl ev4 ?_
      refine r_istore_n C dX5_untieRope_24 (by decide) ?_
      refine r_aload_n C dX5_untieRope_25 rfl ?_
      obtain ⟨a6, ea6, hf⟩ := bS hf
      obtain ⟨r5, er5, hf⟩ := bS hf
      refine r_invV0 (As := []) (ci := 4) C dX5_untieRope_26 mcX4_loosen wd_531 wd_532 wd_533 rfl rfl (by decide) ⟨by decide, by decide⟩ ⟨by decide, by decide⟩ rfl (Nat.le_of_ble_eq_true rfl) ea6 (kX4_loosen l G er5) ?_
      refine r_iload_n C dX5_untieRope_29 rfl ?_
      exact r_iretF C dX5_untieRope_30 hret hf (by decide) (by decide)
    · have hf := ifT hf hc
      exact V.sub (wX5_untieRope_b17 C hret hf) (LW_s rfl (LW_n (LW_n (LW_n (LW_e)))))

theorem dgX5_tiedCount_0 : (decode cX5_tiedCount 0 = .ok (.iconst 0, 1)) ∧ (decode cX5_tiedCount 1 = .ok (.istore_n 1, 1)) ∧ (decode cX5_tiedCount 2 = .ok (.iconst 0, 1)) ∧ (decode cX5_tiedCount 3 = .ok (.istore_n 2, 1)) ∧ (decode cX5_tiedCount 4 = .ok (.iload_n 2, 1)) ∧ (decode cX5_tiedCount 5 = .ok (.aload_n 0, 1)) ∧ (decode cX5_tiedCount 6 = .ok (.getfield 57, 3)) ∧ (decode cX5_tiedCount 9 = .ok (.if_icmp .ge 24, 3)) ∧ (decode cX5_tiedCount 12 = .ok (.aload_n 0, 1)) ∧ (decode cX5_tiedCount 13 = .ok (.getfield 25, 3)) ∧ (decode cX5_tiedCount 16 = .ok (.iload_n 2, 1)) ∧ (decode cX5_tiedCount 17 = .ok (.aaload, 1)) ∧ True := dkW [(0, .iconst 0, 1), (1, .istore_n 1, 1), (2, .iconst 0, 1), (3, .istore_n 2, 1), (4, .iload_n 2, 1), (5, .aload_n 0, 1), (6, .getfield 57, 3), (9, .if_icmp .ge 24, 3), (12, .aload_n 0, 1), (13, .getfield 25, 3), (16, .iload_n 2, 1), (17, .aaload, 1)] 0 (by decide +kernel)
theorem dX5_tiedCount_0 : decode cX5_tiedCount 0 = .ok (.iconst 0, 1) := dgX5_tiedCount_0.1
theorem dX5_tiedCount_1 : decode cX5_tiedCount 1 = .ok (.istore_n 1, 1) := dgX5_tiedCount_0.2.1
theorem dX5_tiedCount_2 : decode cX5_tiedCount 2 = .ok (.iconst 0, 1) := dgX5_tiedCount_0.2.2.1
theorem dX5_tiedCount_3 : decode cX5_tiedCount 3 = .ok (.istore_n 2, 1) := dgX5_tiedCount_0.2.2.2.1
theorem dX5_tiedCount_4 : decode cX5_tiedCount 4 = .ok (.iload_n 2, 1) := dgX5_tiedCount_0.2.2.2.2.1
theorem dX5_tiedCount_5 : decode cX5_tiedCount 5 = .ok (.aload_n 0, 1) := dgX5_tiedCount_0.2.2.2.2.2.1
theorem dX5_tiedCount_6 : decode cX5_tiedCount 6 = .ok (.getfield 57, 3) := dgX5_tiedCount_0.2.2.2.2.2.2.1
theorem dX5_tiedCount_9 : decode cX5_tiedCount 9 = .ok (.if_icmp .ge 24, 3) := dgX5_tiedCount_0.2.2.2.2.2.2.2.1
theorem dX5_tiedCount_12 : decode cX5_tiedCount 12 = .ok (.aload_n 0, 1) := dgX5_tiedCount_0.2.2.2.2.2.2.2.2.1
theorem dX5_tiedCount_13 : decode cX5_tiedCount 13 = .ok (.getfield 25, 3) := dgX5_tiedCount_0.2.2.2.2.2.2.2.2.2.1
theorem dX5_tiedCount_16 : decode cX5_tiedCount 16 = .ok (.iload_n 2, 1) := dgX5_tiedCount_0.2.2.2.2.2.2.2.2.2.2.1
theorem dX5_tiedCount_17 : decode cX5_tiedCount 17 = .ok (.aaload, 1) := dgX5_tiedCount_0.2.2.2.2.2.2.2.2.2.2.2.1
theorem dgX5_tiedCount_18 : (decode cX5_tiedCount 18 = .ok (.getfield 125, 3)) ∧ (decode cX5_tiedCount 21 = .ok (.ifnull 6, 3)) ∧ (decode cX5_tiedCount 24 = .ok (.iinc 1 1, 3)) ∧ (decode cX5_tiedCount 27 = .ok (.iinc 2 1, 3)) ∧ (decode cX5_tiedCount 30 = .ok (.goto (-26), 3)) ∧ (decode cX5_tiedCount 33 = .ok (.iload_n 1, 1)) ∧ (decode cX5_tiedCount 34 = .ok (.ireturn, 1)) ∧ True := dkW [(18, .getfield 125, 3), (21, .ifnull 6, 3), (24, .iinc 1 1, 3), (27, .iinc 2 1, 3), (30, .goto (-26), 3), (33, .iload_n 1, 1), (34, .ireturn, 1)] 18 (by decide +kernel)
theorem dX5_tiedCount_18 : decode cX5_tiedCount 18 = .ok (.getfield 125, 3) := dgX5_tiedCount_18.1
theorem dX5_tiedCount_21 : decode cX5_tiedCount 21 = .ok (.ifnull 6, 3) := dgX5_tiedCount_18.2.1
theorem dX5_tiedCount_24 : decode cX5_tiedCount 24 = .ok (.iinc 1 1, 3) := dgX5_tiedCount_18.2.2.1
theorem dX5_tiedCount_27 : decode cX5_tiedCount 27 = .ok (.iinc 2 1, 3) := dgX5_tiedCount_18.2.2.2.1
theorem dX5_tiedCount_30 : decode cX5_tiedCount 30 = .ok (.goto (-26), 3) := dgX5_tiedCount_18.2.2.2.2.1
theorem dX5_tiedCount_33 : decode cX5_tiedCount 33 = .ok (.iload_n 1, 1) := dgX5_tiedCount_18.2.2.2.2.2.1
theorem dX5_tiedCount_34 : decode cX5_tiedCount 34 = .ok (.ireturn, 1) := dgX5_tiedCount_18.2.2.2.2.2.2.1
abbrev rmX5_tiedCount : Room := { frames := 0, cells := 0, slots := 0, locals := 0 }
noncomputable def fX5_tiedCount_b27 (N : Nat) (g4 : Hs → Int32 → Int32 → Option (Int32 × Hs)) (t : Nat) (h : Hs) (x1 : Int32) (x2 : Int32) : Option (Int32 × Hs) :=
  (some (x2 + 1)).bind fun y1 =>
  g4 h x1 y1
set_option maxHeartbeats 4000000 in
set_option maxRecDepth 20000 in
theorem wX5_tiedCount_b27 {p : Program} {l : Launch} {e : Env} {s : State} {m : MethodId} {args : Array Value} {below : List Frame} {meth : Method} {c : Code} {G : Gl} {N : Nat} {h : Hs} {r : Int32 × Hs} {g4 : Hs → Int32 → Int32 → Option (Int32 × Hs)} {t : Nat} {x1 : Int32} {x2 : Int32} (C : Cx p s m args meth c cX5_tiedCount RX5 3 G) (hret : meth.sig.returnType = (some .int)) (hg4 : ∀ (h : Hs) (x1 : Int32) (x2 : Int32), g4 h x1 x2 = some r → V p l e rmX5_tiedCount s m args below meth c G 3 (MQ below (QcG G (some (.inl r.1)) r.2) args s rmX5_tiedCount.cells rmX5_tiedCount.slots (AG G)) h 0 0 4 [some (.inr (some t)), some (.inl x1), some (.inl x2)] []) (hf : fX5_tiedCount_b27 N g4 t h x1 x2 = some r) : V p l e rmX5_tiedCount s m args below meth c G 3 (MQ below (QcG G (some (.inl r.1)) r.2) args s rmX5_tiedCount.cells rmX5_tiedCount.slots (AG G)) h 0 0 27 [some (.inr (some t)), some (.inl x1), some (.inl x2)] [] := by
  unfold fX5_tiedCount_b27 at hf
  obtain ⟨y1, ey1, hf⟩ := bS hf
  refine r_iincE (v := 1) C dX5_tiedCount_27 rfl (by decide) (by decide) ey1 ?_
  refine r_goto (tgt := 4) C dX5_tiedCount_30 (by decide) ?_
  exact V.sub (hg4 _ _ _ hf) (LW_s rfl (LW_s rfl (LW_s rfl (LW_e))))
noncomputable def fX5_tiedCount_b4_body (N : Nat)  (g4 : Hs → Int32 → Int32 → Option (Int32 × Hs)) (t : Nat) (h : Hs) (x1 : Int32) (x2 : Int32) : Option (Int32 × Hs) :=
  (oI 5 9 h (some t)).bind fun v1 =>
  if v1 ≤ x2 then (
  some (x1, h))
  else (oR 5 2 h (some t)).bind fun o2 =>
  (lQ 25 h o2 x2).bind fun o3 =>
  (oR 4 5 h o3).bind fun o4 =>
  if o4 = none then (
  fX5_tiedCount_b27 N g4 t h x1 x2)
  else (some (x1 + 1)).bind fun y5 =>
  fX5_tiedCount_b27 N g4 t h y5 x2
noncomputable def fX5_tiedCount_b4 (N : Nat)  (t : Nat) (n : Nat) : Hs → Int32 → Int32 → Option (Int32 × Hs) := lp (fun _ _ _ => none) (fun g h x1 x2 => fX5_tiedCount_b4_body N  g t h x1 x2) n
set_option maxHeartbeats 4000000 in
set_option maxRecDepth 20000 in
theorem wX5_tiedCount_b4_body {p : Program} {l : Launch} {e : Env} {s : State} {m : MethodId} {args : Array Value} {below : List Frame} {meth : Method} {c : Code} {G : Gl} {N : Nat} {h : Hs} {r : Int32 × Hs}  {g4 : Hs → Int32 → Int32 → Option (Int32 × Hs)} {t : Nat} {x1 : Int32} {x2 : Int32} (C : Cx p s m args meth c cX5_tiedCount RX5 3 G) (hret : meth.sig.returnType = (some .int))  (hg4 : ∀ (h : Hs) (x1 : Int32) (x2 : Int32), g4 h x1 x2 = some r → V p l e rmX5_tiedCount s m args below meth c G 3 (MQ below (QcG G (some (.inl r.1)) r.2) args s rmX5_tiedCount.cells rmX5_tiedCount.slots (AG G)) h 0 0 4 [some (.inr (some t)), some (.inl x1), some (.inl x2)] []) (hf : fX5_tiedCount_b4_body N  g4 t h x1 x2 = some r) : V p l e rmX5_tiedCount s m args below meth c G 3 (MQ below (QcG G (some (.inl r.1)) r.2) args s rmX5_tiedCount.cells rmX5_tiedCount.slots (AG G)) h 0 0 4 [some (.inr (some t)), some (.inl x1), some (.inl x2)] [] := by
  unfold fX5_tiedCount_b4_body at hf
  refine r_iload_n C dX5_tiedCount_4 rfl ?_
  refine r_aload_n C dX5_tiedCount_5 rfl ?_
  obtain ⟨v1, ev1, hf⟩ := bS hf
  refine r_getI C dX5_tiedCount_6 fl_X5_57 rfl ev1 ?_
  refine r_icmp_ge (tgt := 33) C dX5_tiedCount_9 (by decide) (fun hc => ?_) (fun hc => ?_)
  · have hf := ifT hf hc
    refine r_iload_n C dX5_tiedCount_33 rfl ?_
    exact r_iretF C dX5_tiedCount_34 hret hf (by decide) (by decide)
  · have hf := ifF hf hc
    refine r_aload_n C dX5_tiedCount_12 rfl ?_
    obtain ⟨o2, eo2, hf⟩ := bS hf
    refine r_getR C dX5_tiedCount_13 fl_X5_25 rfl eo2 ?_
    refine r_iload_n C dX5_tiedCount_16 rfl ?_
    obtain ⟨o3, eo3, hf⟩ := bS hf
    refine r_qald (t := 5) C dX5_tiedCount_17 (by decide) (by decide) rfl eo3 ?_
    obtain ⟨o4, eo4, hf⟩ := bS hf
    refine r_getR C dX5_tiedCount_18 fl_X5_125 rfl eo4 ?_
    refine r_ifnull (tgt := 27) C dX5_tiedCount_21 (by decide) (fun hc => ?_) (fun hc => ?_)
    · have hf := ifT hf hc
      exact V.sub (wX5_tiedCount_b27 C hret hg4 hf) (LW_s rfl (LW_s rfl (LW_s rfl (LW_e))))
    · have hf := ifF hf hc
      obtain ⟨y5, ey5, hf⟩ := bS hf
      refine r_iincE (v := 1) C dX5_tiedCount_24 rfl (by decide) (by decide) ey5 ?_
      exact V.sub (wX5_tiedCount_b27 C hret hg4 hf) (LW_s rfl (LW_s rfl (LW_s rfl (LW_e))))
theorem wX5_tiedCount_b4 {p : Program} {l : Launch} {e : Env} {s : State} {m : MethodId} {args : Array Value} {below : List Frame} {meth : Method} {c : Code} {G : Gl} {N : Nat} {r : Int32 × Hs}  {t : Nat} (C : Cx p s m args meth c cX5_tiedCount RX5 3 G) (hret : meth.sig.returnType = (some .int))  : ∀ (n : Nat) (h : Hs) (x1 : Int32) (x2 : Int32), fX5_tiedCount_b4 N  t n h x1 x2 = some r → V p l e rmX5_tiedCount s m args below meth c G 3 (MQ below (QcG G (some (.inl r.1)) r.2) args s rmX5_tiedCount.cells rmX5_tiedCount.slots (AG G)) h 0 0 4 [some (.inr (some t)), some (.inl x1), some (.inl x2)] [] := by
  intro n
  induction n with
  | zero => intro h x1 x2 hf; exact absurd (show (none : Option (Int32 × Hs)) = some r from hf) (fun q => by cases q)
  | succ n ih => intro h x1 x2 hf; exact wX5_tiedCount_b4_body C hret  ih (show fX5_tiedCount_b4_body N  (fX5_tiedCount_b4 N  t n) t h x1 x2 = some r from hf)
noncomputable def fX5_tiedCount (N : Nat) (h : Hs) (t : Nat)  : Option (Int32 × Hs) :=
  fX5_tiedCount_b4 N t N h 0 0
set_option maxHeartbeats 4000000 in
set_option maxRecDepth 20000 in
theorem kX5_tiedCount (l : Launch) (G : Gl) {N : Nat} {h : Hs} {t : Nat}  {r : Int32 × Hs} (hf : fX5_tiedCount N h t  = some r) : CT l G yX5_tiedCount cX5_tiedCount 3 (some .int) rmX5_tiedCount [.inr (some t)] h (some (.inl r.1)) r.2 := by
  refine mk_CT (by decide) (Nat.le_of_ble_eq_true rfl) ?_
  intro p e s m args below meth c C hret hin
  unfold fX5_tiedCount at hf
  refine r_iconst (v := 0) C dX5_tiedCount_0 (by decide) ?_
  refine r_istore_n C dX5_tiedCount_1 (by decide) ?_
  refine r_iconst (v := 0) C dX5_tiedCount_2 (by decide) ?_
  refine r_istore_n C dX5_tiedCount_3 (by decide) ?_
  exact V.sub (wX5_tiedCount_b4 C hret N _ _ _ hf) (LW_s rfl (LW_s rfl (LW_s rfl (LW_e))))

theorem dgX5_setWeight_0 : (decode cX5_setWeight 0 = .ok (.iload_n 1, 1)) ∧ (decode cX5_setWeight 1 = .ok (.iconst 0, 1)) ∧ (decode cX5_setWeight 2 = .ok (.bipush 19, 2)) ∧ (decode cX5_setWeight 4 = .ok (.invokestatic 50, 3)) ∧ (decode cX5_setWeight 7 = .ok (.ifCond .eq 16, 3)) ∧ (decode cX5_setWeight 10 = .ok (.iload_n 2, 1)) ∧ (decode cX5_setWeight 11 = .ok (.sipush (-9999), 3)) ∧ (decode cX5_setWeight 14 = .ok (.sipush 9999, 3)) ∧ (decode cX5_setWeight 17 = .ok (.invokestatic 50, 3)) ∧ (decode cX5_setWeight 20 = .ok (.ifCond .ne 6, 3)) ∧ (decode cX5_setWeight 23 = .ok (.ldc 129, 2)) ∧ (decode cX5_setWeight 25 = .ok (.ireturn, 1)) ∧ True := dkW [(0, .iload_n 1, 1), (1, .iconst 0, 1), (2, .bipush 19, 2), (4, .invokestatic 50, 3), (7, .ifCond .eq 16, 3), (10, .iload_n 2, 1), (11, .sipush (-9999), 3), (14, .sipush 9999, 3), (17, .invokestatic 50, 3), (20, .ifCond .ne 6, 3), (23, .ldc 129, 2), (25, .ireturn, 1)] 0 (by decide +kernel)
theorem dX5_setWeight_0 : decode cX5_setWeight 0 = .ok (.iload_n 1, 1) := dgX5_setWeight_0.1
theorem dX5_setWeight_1 : decode cX5_setWeight 1 = .ok (.iconst 0, 1) := dgX5_setWeight_0.2.1
theorem dX5_setWeight_2 : decode cX5_setWeight 2 = .ok (.bipush 19, 2) := dgX5_setWeight_0.2.2.1
theorem dX5_setWeight_4 : decode cX5_setWeight 4 = .ok (.invokestatic 50, 3) := dgX5_setWeight_0.2.2.2.1
theorem dX5_setWeight_7 : decode cX5_setWeight 7 = .ok (.ifCond .eq 16, 3) := dgX5_setWeight_0.2.2.2.2.1
theorem dX5_setWeight_10 : decode cX5_setWeight 10 = .ok (.iload_n 2, 1) := dgX5_setWeight_0.2.2.2.2.2.1
theorem dX5_setWeight_11 : decode cX5_setWeight 11 = .ok (.sipush (-9999), 3) := dgX5_setWeight_0.2.2.2.2.2.2.1
theorem dX5_setWeight_14 : decode cX5_setWeight 14 = .ok (.sipush 9999, 3) := dgX5_setWeight_0.2.2.2.2.2.2.2.1
theorem dX5_setWeight_17 : decode cX5_setWeight 17 = .ok (.invokestatic 50, 3) := dgX5_setWeight_0.2.2.2.2.2.2.2.2.1
theorem dX5_setWeight_20 : decode cX5_setWeight 20 = .ok (.ifCond .ne 6, 3) := dgX5_setWeight_0.2.2.2.2.2.2.2.2.2.1
theorem dX5_setWeight_23 : decode cX5_setWeight 23 = .ok (.ldc 129, 2) := dgX5_setWeight_0.2.2.2.2.2.2.2.2.2.2.1
theorem dX5_setWeight_25 : decode cX5_setWeight 25 = .ok (.ireturn, 1) := dgX5_setWeight_0.2.2.2.2.2.2.2.2.2.2.2.1
theorem dgX5_setWeight_26 : (decode cX5_setWeight 26 = .ok (.aload_n 0, 1)) ∧ (decode cX5_setWeight 27 = .ok (.getfield 29, 3)) ∧ (decode cX5_setWeight 30 = .ok (.iload_n 1, 1)) ∧ (decode cX5_setWeight 31 = .ok (.iaload, 1)) ∧ (decode cX5_setWeight 32 = .ok (.istore_n 3, 1)) ∧ (decode cX5_setWeight 33 = .ok (.aload_n 0, 1)) ∧ (decode cX5_setWeight 34 = .ok (.getfield 29, 3)) ∧ (decode cX5_setWeight 37 = .ok (.iload_n 1, 1)) ∧ (decode cX5_setWeight 38 = .ok (.iload_n 2, 1)) ∧ (decode cX5_setWeight 39 = .ok (.iastore, 1)) ∧ (decode cX5_setWeight 40 = .ok (.iload_n 3, 1)) ∧ (decode cX5_setWeight 41 = .ok (.ireturn, 1)) ∧ True := dkW [(26, .aload_n 0, 1), (27, .getfield 29, 3), (30, .iload_n 1, 1), (31, .iaload, 1), (32, .istore_n 3, 1), (33, .aload_n 0, 1), (34, .getfield 29, 3), (37, .iload_n 1, 1), (38, .iload_n 2, 1), (39, .iastore, 1), (40, .iload_n 3, 1), (41, .ireturn, 1)] 26 (by decide +kernel)
theorem dX5_setWeight_26 : decode cX5_setWeight 26 = .ok (.aload_n 0, 1) := dgX5_setWeight_26.1
theorem dX5_setWeight_27 : decode cX5_setWeight 27 = .ok (.getfield 29, 3) := dgX5_setWeight_26.2.1
theorem dX5_setWeight_30 : decode cX5_setWeight 30 = .ok (.iload_n 1, 1) := dgX5_setWeight_26.2.2.1
theorem dX5_setWeight_31 : decode cX5_setWeight 31 = .ok (.iaload, 1) := dgX5_setWeight_26.2.2.2.1
theorem dX5_setWeight_32 : decode cX5_setWeight 32 = .ok (.istore_n 3, 1) := dgX5_setWeight_26.2.2.2.2.1
theorem dX5_setWeight_33 : decode cX5_setWeight 33 = .ok (.aload_n 0, 1) := dgX5_setWeight_26.2.2.2.2.2.1
theorem dX5_setWeight_34 : decode cX5_setWeight 34 = .ok (.getfield 29, 3) := dgX5_setWeight_26.2.2.2.2.2.2.1
theorem dX5_setWeight_37 : decode cX5_setWeight 37 = .ok (.iload_n 1, 1) := dgX5_setWeight_26.2.2.2.2.2.2.2.1
theorem dX5_setWeight_38 : decode cX5_setWeight 38 = .ok (.iload_n 2, 1) := dgX5_setWeight_26.2.2.2.2.2.2.2.2.1
theorem dX5_setWeight_39 : decode cX5_setWeight 39 = .ok (.iastore, 1) := dgX5_setWeight_26.2.2.2.2.2.2.2.2.2.1
theorem dX5_setWeight_40 : decode cX5_setWeight 40 = .ok (.iload_n 3, 1) := dgX5_setWeight_26.2.2.2.2.2.2.2.2.2.2.1
theorem dX5_setWeight_41 : decode cX5_setWeight 41 = .ok (.ireturn, 1) := dgX5_setWeight_26.2.2.2.2.2.2.2.2.2.2.2.1
abbrev rmX5_setWeight : Room := { frames := 1, cells := 0, slots := 0, locals := 22 }
noncomputable def fX5_setWeight_b23 (N : Nat)  (t : Nat) (h : Hs)  : Option (Int32 × Hs) :=
  some ((-2000000000), h)
set_option maxHeartbeats 4000000 in
set_option maxRecDepth 20000 in
theorem wX5_setWeight_b23 {p : Program} {l : Launch} {e : Env} {s : State} {m : MethodId} {args : Array Value} {below : List Frame} {meth : Method} {c : Code} {G : Gl} {N : Nat} {h : Hs} {r : Int32 × Hs}  {t : Nat}  (C : Cx p s m args meth c cX5_setWeight RX5 4 G) (hret : meth.sig.returnType = (some .int))  (hf : fX5_setWeight_b23 N  t h  = some r) : V p l e rmX5_setWeight s m args below meth c G 4 (MQ below (QcG G (some (.inl r.1)) r.2) args s rmX5_setWeight.cells rmX5_setWeight.slots (AG G)) h 0 0 23 [some (.inr (some t)), none, none, none] [] := by
  unfold fX5_setWeight_b23 at hf
  refine r_ldc C dX5_setWeight_23 wd_530 ?_
  exact r_iretF C dX5_setWeight_25 hret hf (by decide) (by decide)
noncomputable def fX5_setWeight (N : Nat) (h : Hs) (t : Nat) (p1 : Int32) (p2 : Int32) : Option (Int32 × Hs) :=
  (fX11_isWithin N h p1 0 19).bind fun r1 =>
  if r1.1 = 0 then (
  fX5_setWeight_b23 N t r1.2)
  else (fX11_isWithin N r1.2 p2 (-9999) 9999).bind fun r2 =>
  if r2.1 = 0 then (
  fX5_setWeight_b23 N t r2.2)
  else (oR 5 3 r2.2 (some t)).bind fun o3 =>
  (lA 20 r2.2 o3 p1).bind fun v4 =>
  (oR 5 3 r2.2 (some t)).bind fun o5 =>
  (sA r2.2 o5 p1 p2).bind fun h6 =>
  some (v4, h6)
set_option maxHeartbeats 4000000 in
set_option maxRecDepth 20000 in
theorem kX5_setWeight (l : Launch) (G : Gl) {N : Nat} {h : Hs} {t : Nat} {p1 : Int32} {p2 : Int32} {r : Int32 × Hs} (hf : fX5_setWeight N h t p1 p2 = some r) : CT l G yX5_setWeight cX5_setWeight 4 (some .int) rmX5_setWeight [.inr (some t), .inl p1, .inl p2] h (some (.inl r.1)) r.2 := by
  refine mk_CT (by decide) (Nat.le_of_ble_eq_true rfl) ?_
  intro p e s m args below meth c C hret hin
  unfold fX5_setWeight at hf
  refine r_iload_n C dX5_setWeight_0 rfl ?_
  refine r_iconst (v := 0) C dX5_setWeight_1 (by decide) ?_
  refine r_bipush (v := 19) C dX5_setWeight_2 (by decide) ?_
  obtain ⟨r1, er1, hf⟩ := bS hf
  refine r_invSN1 (As := [.inl p1, .inl 0, .inl 19]) (host := "StageMachine") C dX5_setWeight_4 mcX11_isWithin (by decide) wd_291 ⟨by decide, by decide⟩ ⟨by decide, by decide⟩ rfl (Nat.le_of_ble_eq_true rfl) (kX11_isWithin l G er1) ?_
  refine r_if_eq (tgt := 23) C dX5_setWeight_7 (by decide) (fun hc => ?_) (fun hc => ?_)
  · have hf := ifT hf hc
    exact V.sub (wX5_setWeight_b23 C hret hf) (LW_s rfl (LW_n (LW_n (LW_n (LW_e)))))
  · have hf := ifF hf hc
    refine r_iload_n C dX5_setWeight_10 rfl ?_
    refine r_sipush (v := -9999) C dX5_setWeight_11 (by decide) ?_
    refine r_sipush (v := 9999) C dX5_setWeight_14 (by decide) ?_
    obtain ⟨r2, er2, hf⟩ := bS hf
    refine r_invSN1 (As := [.inl p2, .inl (-9999), .inl 9999]) (host := "StageMachine") C dX5_setWeight_17 mcX11_isWithin (by decide) wd_291 ⟨by decide, by decide⟩ ⟨by decide, by decide⟩ rfl (Nat.le_of_ble_eq_true rfl) (kX11_isWithin l G er2) ?_
    refine r_if_ne (tgt := 26) C dX5_setWeight_20 (by decide) (fun hc => ?_) (fun hc => ?_)
    · have hf := ifF hf hc
      refine r_aload_n C dX5_setWeight_26 rfl ?_
      obtain ⟨o3, eo3, hf⟩ := bS hf
      refine r_getR C dX5_setWeight_27 fl_X5_29 rfl eo3 ?_
      refine r_iload_n C dX5_setWeight_30 rfl ?_
      obtain ⟨v4, ev4, hf⟩ := bS hf
      refine r_iald C dX5_setWeight_31 ev4 ?_
      refine r_istore_n C dX5_setWeight_32 (by decide) ?_
      refine r_aload_n C dX5_setWeight_33 rfl ?_
      obtain ⟨o5, eo5, hf⟩ := bS hf
      refine r_getR C dX5_setWeight_34 fl_X5_29 rfl eo5 ?_
      refine r_iload_n C dX5_setWeight_37 rfl ?_
      refine r_iload_n C dX5_setWeight_38 rfl ?_
      obtain ⟨h6, eh6, hf⟩ := bS hf
      refine r_iast C dX5_setWeight_39 eh6 ?_
      refine r_iload_n C dX5_setWeight_40 rfl ?_
      exact r_iretF C dX5_setWeight_41 hret hf (by decide) (by decide)
    · have hf := ifT hf hc
      exact V.sub (wX5_setWeight_b23 C hret hf) (LW_s rfl (LW_n (LW_n (LW_n (LW_e)))))

theorem dgX5_setBound_0 : (decode cX5_setBound 0 = .ok (.iload_n 1, 1)) ∧ (decode cX5_setBound 1 = .ok (.iconst 0, 1)) ∧ (decode cX5_setBound 2 = .ok (.ldc 42, 2)) ∧ (decode cX5_setBound 4 = .ok (.invokestatic 50, 3)) ∧ (decode cX5_setBound 7 = .ok (.ifCond .ne 5, 3)) ∧ True := dkW [(0, .iload_n 1, 1), (1, .iconst 0, 1), (2, .ldc 42, 2), (4, .invokestatic 50, 3), (7, .ifCond .ne 5, 3)] 0 (by decide +kernel)
theorem dX5_setBound_0 : decode cX5_setBound 0 = .ok (.iload_n 1, 1) := dgX5_setBound_0.1
theorem dX5_setBound_1 : decode cX5_setBound 1 = .ok (.iconst 0, 1) := dgX5_setBound_0.2.1
theorem dX5_setBound_2 : decode cX5_setBound 2 = .ok (.ldc 42, 2) := dgX5_setBound_0.2.2.1
theorem dX5_setBound_4 : decode cX5_setBound 4 = .ok (.invokestatic 50, 3) := dgX5_setBound_0.2.2.2.1
theorem dX5_setBound_7 : decode cX5_setBound 7 = .ok (.ifCond .ne 5, 3) := dgX5_setBound_0.2.2.2.2.1
theorem dX5_setBound_10 : decode cX5_setBound 10 = .ok (.iconst (-1), 1) := by decide +kernel
theorem dgX5_setBound_11 : (decode cX5_setBound 11 = .ok (.ireturn, 1)) ∧ (decode cX5_setBound 12 = .ok (.aload_n 0, 1)) ∧ (decode cX5_setBound 13 = .ok (.getfield 43, 3)) ∧ (decode cX5_setBound 16 = .ok (.istore_n 2, 1)) ∧ (decode cX5_setBound 17 = .ok (.aload_n 0, 1)) ∧ (decode cX5_setBound 18 = .ok (.iload_n 1, 1)) ∧ (decode cX5_setBound 19 = .ok (.putfield 43, 3)) ∧ (decode cX5_setBound 22 = .ok (.iload_n 2, 1)) ∧ (decode cX5_setBound 23 = .ok (.ireturn, 1)) ∧ True := dkW [(11, .ireturn, 1), (12, .aload_n 0, 1), (13, .getfield 43, 3), (16, .istore_n 2, 1), (17, .aload_n 0, 1), (18, .iload_n 1, 1), (19, .putfield 43, 3), (22, .iload_n 2, 1), (23, .ireturn, 1)] 11 (by decide +kernel)
theorem dX5_setBound_11 : decode cX5_setBound 11 = .ok (.ireturn, 1) := dgX5_setBound_11.1
theorem dX5_setBound_12 : decode cX5_setBound 12 = .ok (.aload_n 0, 1) := dgX5_setBound_11.2.1
theorem dX5_setBound_13 : decode cX5_setBound 13 = .ok (.getfield 43, 3) := dgX5_setBound_11.2.2.1
theorem dX5_setBound_16 : decode cX5_setBound 16 = .ok (.istore_n 2, 1) := dgX5_setBound_11.2.2.2.1
theorem dX5_setBound_17 : decode cX5_setBound 17 = .ok (.aload_n 0, 1) := dgX5_setBound_11.2.2.2.2.1
theorem dX5_setBound_18 : decode cX5_setBound 18 = .ok (.iload_n 1, 1) := dgX5_setBound_11.2.2.2.2.2.1
theorem dX5_setBound_19 : decode cX5_setBound 19 = .ok (.putfield 43, 3) := dgX5_setBound_11.2.2.2.2.2.2.1
theorem dX5_setBound_22 : decode cX5_setBound 22 = .ok (.iload_n 2, 1) := dgX5_setBound_11.2.2.2.2.2.2.2.1
theorem dX5_setBound_23 : decode cX5_setBound 23 = .ok (.ireturn, 1) := dgX5_setBound_11.2.2.2.2.2.2.2.2.1
abbrev rmX5_setBound : Room := { frames := 1, cells := 0, slots := 0, locals := 22 }
noncomputable def fX5_setBound (N : Nat) (h : Hs) (t : Nat) (p1 : Int32) : Option (Int32 × Hs) :=
  (fX11_isWithin N h p1 0 99999).bind fun r1 =>
  if r1.1 = 0 then (
  some ((-1), r1.2))
  else (oI 5 10 r1.2 (some t)).bind fun v2 =>
  (qI 5 10 r1.2 (some t) p1).bind fun h3 =>
  some (v2, h3)
set_option maxHeartbeats 4000000 in
set_option maxRecDepth 20000 in
theorem kX5_setBound (l : Launch) (G : Gl) {N : Nat} {h : Hs} {t : Nat} {p1 : Int32} {r : Int32 × Hs} (hf : fX5_setBound N h t p1 = some r) : CT l G yX5_setBound cX5_setBound 3 (some .int) rmX5_setBound [.inr (some t), .inl p1] h (some (.inl r.1)) r.2 := by
  refine mk_CT (by decide) (Nat.le_of_ble_eq_true rfl) ?_
  intro p e s m args below meth c C hret hin
  unfold fX5_setBound at hf
  refine r_iload_n C dX5_setBound_0 rfl ?_
  refine r_iconst (v := 0) C dX5_setBound_1 (by decide) ?_
  refine r_ldc C dX5_setBound_2 wd_127 ?_
  obtain ⟨r1, er1, hf⟩ := bS hf
  refine r_invSN1 (As := [.inl p1, .inl 0, .inl 99999]) (host := "StageMachine") C dX5_setBound_4 mcX11_isWithin (by decide) wd_291 ⟨by decide, by decide⟩ ⟨by decide, by decide⟩ rfl (Nat.le_of_ble_eq_true rfl) (kX11_isWithin l G er1) ?_
  refine r_if_ne (tgt := 12) C dX5_setBound_7 (by decide) (fun hc => ?_) (fun hc => ?_)
  · have hf := ifF hf hc
    refine r_aload_n C dX5_setBound_12 rfl ?_
    obtain ⟨v2, ev2, hf⟩ := bS hf
    refine r_getI C dX5_setBound_13 fl_X5_43 rfl ev2 ?_
    refine r_istore_n C dX5_setBound_16 (by decide) ?_
    refine r_aload_n C dX5_setBound_17 rfl ?_
    refine r_iload_n C dX5_setBound_18 rfl ?_
    obtain ⟨h3, eh3, hf⟩ := bS hf
    refine r_putI C dX5_setBound_19 fl_X5_43 (Or.inl fn_5_10) rfl eh3 ?_
    refine r_iload_n C dX5_setBound_22 rfl ?_
    exact r_iretF C dX5_setBound_23 hret hf (by decide) (by decide)
  · have hf := ifT hf hc
    refine r_iconst (v := -1) C dX5_setBound_10 (by decide) ?_
    exact r_iretF C dX5_setBound_11 hret hf (by decide) (by decide)

theorem dgX5_place_0 : (decode cX5_place 0 = .ok (.iconst 0, 1)) ∧ (decode cX5_place 1 = .ok (.istore_n 2, 1)) ∧ (decode cX5_place 2 = .ok (.iload_n 2, 1)) ∧ (decode cX5_place 3 = .ok (.aload_n 0, 1)) ∧ (decode cX5_place 4 = .ok (.getfield 47, 3)) ∧ (decode cX5_place 7 = .ok (.if_icmp .ge 54, 3)) ∧ (decode cX5_place 10 = .ok (.aload_n 0, 1)) ∧ (decode cX5_place 11 = .ok (.getfield 11, 3)) ∧ (decode cX5_place 14 = .ok (.iload_n 2, 1)) ∧ (decode cX5_place 15 = .ok (.aaload, 1)) ∧ (decode cX5_place 16 = .ok (.astore_n 3, 1)) ∧ (decode cX5_place 17 = .ok (.aload_n 3, 1)) ∧ True := dkW [(0, .iconst 0, 1), (1, .istore_n 2, 1), (2, .iload_n 2, 1), (3, .aload_n 0, 1), (4, .getfield 47, 3), (7, .if_icmp .ge 54, 3), (10, .aload_n 0, 1), (11, .getfield 11, 3), (14, .iload_n 2, 1), (15, .aaload, 1), (16, .astore_n 3, 1), (17, .aload_n 3, 1)] 0 (by decide +kernel)
theorem dX5_place_0 : decode cX5_place 0 = .ok (.iconst 0, 1) := dgX5_place_0.1
theorem dX5_place_1 : decode cX5_place 1 = .ok (.istore_n 2, 1) := dgX5_place_0.2.1
theorem dX5_place_2 : decode cX5_place 2 = .ok (.iload_n 2, 1) := dgX5_place_0.2.2.1
theorem dX5_place_3 : decode cX5_place 3 = .ok (.aload_n 0, 1) := dgX5_place_0.2.2.2.1
theorem dX5_place_4 : decode cX5_place 4 = .ok (.getfield 47, 3) := dgX5_place_0.2.2.2.2.1
theorem dX5_place_7 : decode cX5_place 7 = .ok (.if_icmp .ge 54, 3) := dgX5_place_0.2.2.2.2.2.1
theorem dX5_place_10 : decode cX5_place 10 = .ok (.aload_n 0, 1) := dgX5_place_0.2.2.2.2.2.2.1
theorem dX5_place_11 : decode cX5_place 11 = .ok (.getfield 11, 3) := dgX5_place_0.2.2.2.2.2.2.2.1
theorem dX5_place_14 : decode cX5_place 14 = .ok (.iload_n 2, 1) := dgX5_place_0.2.2.2.2.2.2.2.2.1
theorem dX5_place_15 : decode cX5_place 15 = .ok (.aaload, 1) := dgX5_place_0.2.2.2.2.2.2.2.2.2.1
theorem dX5_place_16 : decode cX5_place 16 = .ok (.astore_n 3, 1) := dgX5_place_0.2.2.2.2.2.2.2.2.2.2.1
theorem dX5_place_17 : decode cX5_place 17 = .ok (.aload_n 3, 1) := dgX5_place_0.2.2.2.2.2.2.2.2.2.2.2.1
theorem dgX5_place_18 : (decode cX5_place 18 = .ok (.getfield 113, 3)) ∧ (decode cX5_place 21 = .ok (.astore 4, 2)) ∧ (decode cX5_place 23 = .ok (.aload_n 3, 1)) ∧ (decode cX5_place 24 = .ok (.aload 4, 2)) ∧ (decode cX5_place 26 = .ok (.ifnonnull 10, 3)) ∧ (decode cX5_place 29 = .ok (.aload_n 3, 1)) ∧ (decode cX5_place 30 = .ok (.getfield 87, 3)) ∧ (decode cX5_place 33 = .ok (.goto 19, 3)) ∧ (decode cX5_place 36 = .ok (.aload 4, 2)) ∧ (decode cX5_place 38 = .ok (.aload 4, 2)) ∧ (decode cX5_place 40 = .ok (.getfield 143, 3)) ∧ (decode cX5_place 43 = .ok (.aload 4, 2)) ∧ True := dkW [(18, .getfield 113, 3), (21, .astore 4, 2), (23, .aload_n 3, 1), (24, .aload 4, 2), (26, .ifnonnull 10, 3), (29, .aload_n 3, 1), (30, .getfield 87, 3), (33, .goto 19, 3), (36, .aload 4, 2), (38, .aload 4, 2), (40, .getfield 143, 3), (43, .aload 4, 2)] 18 (by decide +kernel)
theorem dX5_place_18 : decode cX5_place 18 = .ok (.getfield 113, 3) := dgX5_place_18.1
theorem dX5_place_21 : decode cX5_place 21 = .ok (.astore 4, 2) := dgX5_place_18.2.1
theorem dX5_place_23 : decode cX5_place 23 = .ok (.aload_n 3, 1) := dgX5_place_18.2.2.1
theorem dX5_place_24 : decode cX5_place 24 = .ok (.aload 4, 2) := dgX5_place_18.2.2.2.1
theorem dX5_place_26 : decode cX5_place 26 = .ok (.ifnonnull 10, 3) := dgX5_place_18.2.2.2.2.1
theorem dX5_place_29 : decode cX5_place 29 = .ok (.aload_n 3, 1) := dgX5_place_18.2.2.2.2.2.1
theorem dX5_place_30 : decode cX5_place 30 = .ok (.getfield 87, 3) := dgX5_place_18.2.2.2.2.2.2.1
theorem dX5_place_33 : decode cX5_place 33 = .ok (.goto 19, 3) := dgX5_place_18.2.2.2.2.2.2.2.1
theorem dX5_place_36 : decode cX5_place 36 = .ok (.aload 4, 2) := dgX5_place_18.2.2.2.2.2.2.2.2.1
theorem dX5_place_38 : decode cX5_place 38 = .ok (.aload 4, 2) := dgX5_place_18.2.2.2.2.2.2.2.2.2.1
theorem dX5_place_40 : decode cX5_place 40 = .ok (.getfield 143, 3) := dgX5_place_18.2.2.2.2.2.2.2.2.2.2.1
theorem dX5_place_43 : decode cX5_place 43 = .ok (.aload 4, 2) := dgX5_place_18.2.2.2.2.2.2.2.2.2.2.2.1
theorem dgX5_place_45 : (decode cX5_place 45 = .ok (.iload_n 1, 1)) ∧ (decode cX5_place 46 = .ok (.invokevirtual 146, 3)) ∧ (decode cX5_place 49 = .ok (.invokevirtual 150, 3)) ∧ (decode cX5_place 52 = .ok (.putfield 154, 3)) ∧ (decode cX5_place 55 = .ok (.iinc 2 1, 3)) ∧ (decode cX5_place 58 = .ok (.goto (-56), 3)) ∧ (decode cX5_place 61 = .ok (.return_, 1)) ∧ True := dkW [(45, .iload_n 1, 1), (46, .invokevirtual 146, 3), (49, .invokevirtual 150, 3), (52, .putfield 154, 3), (55, .iinc 2 1, 3), (58, .goto (-56), 3), (61, .return_, 1)] 45 (by decide +kernel)
theorem dX5_place_45 : decode cX5_place 45 = .ok (.iload_n 1, 1) := dgX5_place_45.1
theorem dX5_place_46 : decode cX5_place 46 = .ok (.invokevirtual 146, 3) := dgX5_place_45.2.1
theorem dX5_place_49 : decode cX5_place 49 = .ok (.invokevirtual 150, 3) := dgX5_place_45.2.2.1
theorem dX5_place_52 : decode cX5_place 52 = .ok (.putfield 154, 3) := dgX5_place_45.2.2.2.1
theorem dX5_place_55 : decode cX5_place 55 = .ok (.iinc 2 1, 3) := dgX5_place_45.2.2.2.2.1
theorem dX5_place_58 : decode cX5_place 58 = .ok (.goto (-56), 3) := dgX5_place_45.2.2.2.2.2.1
theorem dX5_place_61 : decode cX5_place 61 = .ok (.return_, 1) := dgX5_place_45.2.2.2.2.2.2.1
abbrev rmX5_place : Room := { frames := 2, cells := 0, slots := 0, locals := 43 }
noncomputable def fX5_place_b52 (N : Nat) (g2 : Hs → Int32 → Int32 → Option (Hs)) (t : Nat) (h : Hs) (x1 : Int32) (x2 : Int32) (q0 : Option Nat) (u1 : Int32) : Option (Hs) :=
  (qI 9 8 h q0 u1).bind fun h1 =>
  (some (x2 + 1)).bind fun y2 =>
  g2 h1 x1 y2
set_option maxHeartbeats 4000000 in
set_option maxRecDepth 20000 in
theorem wX5_place_b52 {p : Program} {l : Launch} {e : Env} {s : State} {m : MethodId} {args : Array Value} {below : List Frame} {meth : Method} {c : Code} {G : Gl} {N : Nat} {h : Hs} {r : Hs} {g2 : Hs → Int32 → Int32 → Option (Hs)} {t : Nat} {x1 : Int32} {x2 : Int32} {q0 : Option Nat} {u1 : Int32} (C : Cx p s m args meth c cX5_place RX5 5 G) (hret : meth.sig.returnType = none) (hg2 : ∀ (h : Hs) (x1 : Int32) (x2 : Int32), g2 h x1 x2 = some r → V p l e rmX5_place s m args below meth c G 5 (MQ below (QcG G (none) r) args s rmX5_place.cells rmX5_place.slots (AG G)) h 0 0 2 [some (.inr (some t)), some (.inl x1), some (.inl x2), none, none] []) (hf : fX5_place_b52 N g2 t h x1 x2 q0 u1 = some r) : V p l e rmX5_place s m args below meth c G 5 (MQ below (QcG G (none) r) args s rmX5_place.cells rmX5_place.slots (AG G)) h 0 0 52 [some (.inr (some t)), some (.inl x1), some (.inl x2), none, none] [.inl u1, .inr q0] := by
  unfold fX5_place_b52 at hf
  obtain ⟨h1, eh1, hf⟩ := bS hf
  refine r_putI C dX5_place_52 fl_X5_154 (Or.inl fn_9_8) rfl eh1 ?_
  obtain ⟨y2, ey2, hf⟩ := bS hf
  refine r_iincE (v := 1) C dX5_place_55 rfl (by decide) (by decide) ey2 ?_
  refine r_goto (tgt := 2) C dX5_place_58 (by decide) ?_
  exact V.sub (hg2 _ _ _ hf) (LW_s rfl (LW_s rfl (LW_s rfl (LW_n (LW_n (LW_e))))))
noncomputable def fX5_place_b2_body (N : Nat)  (g2 : Hs → Int32 → Int32 → Option (Hs)) (t : Nat) (h : Hs) (x1 : Int32) (x2 : Int32) : Option (Hs) :=
  (oI 5 7 h (some t)).bind fun v1 =>
  if v1 ≤ x2 then (
  some h)
  else (oR 5 0 h (some t)).bind fun o2 =>
  (lQ 23 h o2 x2).bind fun o3 =>
  (oR 9 9 h o3).bind fun o4 =>
  if o4 = none then (
  (oI 9 7 h o3).bind fun v10 =>
  fX5_place_b52 N g2 t h x1 x2 o3 v10)
  else (oI 4 6 h o4).bind fun v5 =>
  (rc 4 h o4).bind fun a7 =>
  (fX4_doneAfter N h a7 x1).bind fun r6 =>
  (rc 4 r6.2 o4).bind fun a9 =>
  (fX4_placeFrom N r6.2 a9 v5 r6.1).bind fun r8 =>
  fX5_place_b52 N g2 t r8.2 x1 x2 o3 r8.1
noncomputable def fX5_place_b2 (N : Nat)  (t : Nat) (n : Nat) : Hs → Int32 → Int32 → Option (Hs) := lp (fun _ _ _ => none) (fun g h x1 x2 => fX5_place_b2_body N  g t h x1 x2) n
set_option maxHeartbeats 4000000 in
set_option maxRecDepth 20000 in
theorem wX5_place_b2_body {p : Program} {l : Launch} {e : Env} {s : State} {m : MethodId} {args : Array Value} {below : List Frame} {meth : Method} {c : Code} {G : Gl} {N : Nat} {h : Hs} {r : Hs}  {g2 : Hs → Int32 → Int32 → Option (Hs)} {t : Nat} {x1 : Int32} {x2 : Int32} (C : Cx p s m args meth c cX5_place RX5 5 G) (hret : meth.sig.returnType = none)  (hg2 : ∀ (h : Hs) (x1 : Int32) (x2 : Int32), g2 h x1 x2 = some r → V p l e rmX5_place s m args below meth c G 5 (MQ below (QcG G (none) r) args s rmX5_place.cells rmX5_place.slots (AG G)) h 0 0 2 [some (.inr (some t)), some (.inl x1), some (.inl x2), none, none] []) (hf : fX5_place_b2_body N  g2 t h x1 x2 = some r) : V p l e rmX5_place s m args below meth c G 5 (MQ below (QcG G (none) r) args s rmX5_place.cells rmX5_place.slots (AG G)) h 0 0 2 [some (.inr (some t)), some (.inl x1), some (.inl x2), none, none] [] := by
  unfold fX5_place_b2_body at hf
  refine r_iload_n C dX5_place_2 rfl ?_
  refine r_aload_n C dX5_place_3 rfl ?_
  obtain ⟨v1, ev1, hf⟩ := bS hf
  refine r_getI C dX5_place_4 fl_X5_47 rfl ev1 ?_
  refine r_icmp_ge (tgt := 61) C dX5_place_7 (by decide) (fun hc => ?_) (fun hc => ?_)
  · have hf := ifT hf hc
    exact r_vretF C dX5_place_61 hret hf (by decide) (by decide)
  · have hf := ifF hf hc
    refine r_aload_n C dX5_place_10 rfl ?_
    obtain ⟨o2, eo2, hf⟩ := bS hf
    refine r_getR C dX5_place_11 fl_X5_11 rfl eo2 ?_
    refine r_iload_n C dX5_place_14 rfl ?_
    obtain ⟨o3, eo3, hf⟩ := bS hf
    refine r_qald (t := 3) C dX5_place_15 (by decide) (by decide) rfl eo3 ?_
    refine r_astore_n C dX5_place_16 (by decide) ?_
    refine r_aload_n C dX5_place_17 rfl ?_
    obtain ⟨o4, eo4, hf⟩ := bS hf
    refine r_getR C dX5_place_18 fl_X5_113 rfl eo4 ?_
    refine r_astore C dX5_place_21 (by decide) ?_
    refine r_aload_n C dX5_place_23 rfl ?_
    refine r_aload C dX5_place_24 rfl ?_
    refine r_ifnonnull (tgt := 36) C dX5_place_26 (by decide) (fun hc => ?_) (fun hc => ?_)
    · have hf := ifF hf hc
      refine r_aload C dX5_place_36 rfl ?_
      refine r_aload C dX5_place_38 rfl ?_
      obtain ⟨v5, ev5, hf⟩ := bS hf
      refine r_getI C dX5_place_40 fl_X5_143 rfl ev5 ?_
      refine r_aload C dX5_place_43 rfl ?_
      refine r_iload_n C dX5_place_45 rfl ?_
      obtain ⟨a7, ea7, hf⟩ := bS hf
      obtain ⟨r6, er6, hf⟩ := bS hf
      refine r_invV1 (As := [.inl x1]) (ci := 4) C dX5_place_46 mcX4_doneAfter wd_563 wd_564 wd_565 rfl rfl (by decide) ⟨by decide, by decide⟩ ⟨by decide, by decide⟩ rfl (Nat.le_of_ble_eq_true rfl) ea7 (kX4_doneAfter l G er6) ?_
      obtain ⟨a9, ea9, hf⟩ := bS hf
      obtain ⟨r8, er8, hf⟩ := bS hf
      refine r_invV1 (As := [.inl v5, .inl r6.1]) (ci := 4) C dX5_place_49 mcX4_placeFrom wd_567 wd_568 wd_569 rfl rfl (by decide) ⟨by decide, by decide⟩ ⟨by decide, by decide⟩ rfl (Nat.le_of_ble_eq_true rfl) ea9 (kX4_placeFrom l G er8) ?_
      exact V.sub (wX5_place_b52 C hret hg2 hf) (LW_s rfl (LW_s rfl (LW_s rfl (LW_n (LW_n (LW_e))))))
    · have hf := ifT hf hc
      refine r_aload_n C dX5_place_29 rfl ?_
      obtain ⟨v10, ev10, hf⟩ := bS hf
      refine r_getI C dX5_place_30 fl_X5_87 rfl ev10 ?_
      refine r_goto (tgt := 52) C dX5_place_33 (by decide) ?_
      exact V.sub (wX5_place_b52 C hret hg2 hf) (LW_s rfl (LW_s rfl (LW_s rfl (LW_n (LW_n (LW_e))))))
theorem wX5_place_b2 {p : Program} {l : Launch} {e : Env} {s : State} {m : MethodId} {args : Array Value} {below : List Frame} {meth : Method} {c : Code} {G : Gl} {N : Nat} {r : Hs}  {t : Nat} (C : Cx p s m args meth c cX5_place RX5 5 G) (hret : meth.sig.returnType = none)  : ∀ (n : Nat) (h : Hs) (x1 : Int32) (x2 : Int32), fX5_place_b2 N  t n h x1 x2 = some r → V p l e rmX5_place s m args below meth c G 5 (MQ below (QcG G (none) r) args s rmX5_place.cells rmX5_place.slots (AG G)) h 0 0 2 [some (.inr (some t)), some (.inl x1), some (.inl x2), none, none] [] := by
  intro n
  induction n with
  | zero => intro h x1 x2 hf; exact absurd (show (none : Option (Hs)) = some r from hf) (fun q => by cases q)
  | succ n ih => intro h x1 x2 hf; exact wX5_place_b2_body C hret  ih (show fX5_place_b2_body N  (fX5_place_b2 N  t n) t h x1 x2 = some r from hf)
noncomputable def fX5_place (N : Nat) (h : Hs) (t : Nat) (p1 : Int32) : Option (Hs) :=
  fX5_place_b2 N t N h p1 0
set_option maxHeartbeats 4000000 in
set_option maxRecDepth 20000 in
theorem kX5_place (l : Launch) (G : Gl) {N : Nat} {h : Hs} {t : Nat} {p1 : Int32} {r : Hs} (hf : fX5_place N h t p1 = some r) : CT l G yX5_place cX5_place 5 none rmX5_place [.inr (some t), .inl p1] h (none) r := by
  refine mk_CT (by decide) (Nat.le_of_ble_eq_true rfl) ?_
  intro p e s m args below meth c C hret hin
  unfold fX5_place at hf
  refine r_iconst (v := 0) C dX5_place_0 (by decide) ?_
  refine r_istore_n C dX5_place_1 (by decide) ?_
  exact V.sub (wX5_place_b2 C hret N _ _ _ hf) (LW_s rfl (LW_s rfl (LW_s rfl (LW_n (LW_n (LW_e))))))

theorem dgX5_trialPull_0 : (decode cX5_trialPull 0 = .ok (.iconst 0, 1)) ∧ (decode cX5_trialPull 1 = .ok (.istore_n 1, 1)) ∧ (decode cX5_trialPull 2 = .ok (.iconst 0, 1)) ∧ (decode cX5_trialPull 3 = .ok (.istore_n 2, 1)) ∧ (decode cX5_trialPull 4 = .ok (.iload_n 2, 1)) ∧ (decode cX5_trialPull 5 = .ok (.aload_n 0, 1)) ∧ (decode cX5_trialPull 6 = .ok (.getfield 57, 3)) ∧ (decode cX5_trialPull 9 = .ok (.if_icmp .ge 33, 3)) ∧ (decode cX5_trialPull 12 = .ok (.iload_n 1, 1)) ∧ (decode cX5_trialPull 13 = .ok (.aload_n 0, 1)) ∧ (decode cX5_trialPull 14 = .ok (.getfield 25, 3)) ∧ (decode cX5_trialPull 17 = .ok (.iload_n 2, 1)) ∧ True := dkW [(0, .iconst 0, 1), (1, .istore_n 1, 1), (2, .iconst 0, 1), (3, .istore_n 2, 1), (4, .iload_n 2, 1), (5, .aload_n 0, 1), (6, .getfield 57, 3), (9, .if_icmp .ge 33, 3), (12, .iload_n 1, 1), (13, .aload_n 0, 1), (14, .getfield 25, 3), (17, .iload_n 2, 1)] 0 (by decide +kernel)
theorem dX5_trialPull_0 : decode cX5_trialPull 0 = .ok (.iconst 0, 1) := dgX5_trialPull_0.1
theorem dX5_trialPull_1 : decode cX5_trialPull 1 = .ok (.istore_n 1, 1) := dgX5_trialPull_0.2.1
theorem dX5_trialPull_2 : decode cX5_trialPull 2 = .ok (.iconst 0, 1) := dgX5_trialPull_0.2.2.1
theorem dX5_trialPull_3 : decode cX5_trialPull 3 = .ok (.istore_n 2, 1) := dgX5_trialPull_0.2.2.2.1
theorem dX5_trialPull_4 : decode cX5_trialPull 4 = .ok (.iload_n 2, 1) := dgX5_trialPull_0.2.2.2.2.1
theorem dX5_trialPull_5 : decode cX5_trialPull 5 = .ok (.aload_n 0, 1) := dgX5_trialPull_0.2.2.2.2.2.1
theorem dX5_trialPull_6 : decode cX5_trialPull 6 = .ok (.getfield 57, 3) := dgX5_trialPull_0.2.2.2.2.2.2.1
theorem dX5_trialPull_9 : decode cX5_trialPull 9 = .ok (.if_icmp .ge 33, 3) := dgX5_trialPull_0.2.2.2.2.2.2.2.1
theorem dX5_trialPull_12 : decode cX5_trialPull 12 = .ok (.iload_n 1, 1) := dgX5_trialPull_0.2.2.2.2.2.2.2.2.1
theorem dX5_trialPull_13 : decode cX5_trialPull 13 = .ok (.aload_n 0, 1) := dgX5_trialPull_0.2.2.2.2.2.2.2.2.2.1
theorem dX5_trialPull_14 : decode cX5_trialPull 14 = .ok (.getfield 25, 3) := dgX5_trialPull_0.2.2.2.2.2.2.2.2.2.2.1
theorem dX5_trialPull_17 : decode cX5_trialPull 17 = .ok (.iload_n 2, 1) := dgX5_trialPull_0.2.2.2.2.2.2.2.2.2.2.2.1
theorem dgX5_trialPull_18 : (decode cX5_trialPull 18 = .ok (.aaload, 1)) ∧ (decode cX5_trialPull 19 = .ok (.aload_n 0, 1)) ∧ (decode cX5_trialPull 20 = .ok (.getfield 25, 3)) ∧ (decode cX5_trialPull 23 = .ok (.iload_n 2, 1)) ∧ (decode cX5_trialPull 24 = .ok (.aaload, 1)) ∧ (decode cX5_trialPull 25 = .ok (.getfield 109, 3)) ∧ (decode cX5_trialPull 28 = .ok (.getfield 154, 3)) ∧ (decode cX5_trialPull 31 = .ok (.invokevirtual 157, 3)) ∧ (decode cX5_trialPull 34 = .ok (.iadd, 1)) ∧ (decode cX5_trialPull 35 = .ok (.istore_n 1, 1)) ∧ (decode cX5_trialPull 36 = .ok (.iinc 2 1, 3)) ∧ (decode cX5_trialPull 39 = .ok (.goto (-35), 3)) ∧ True := dkW [(18, .aaload, 1), (19, .aload_n 0, 1), (20, .getfield 25, 3), (23, .iload_n 2, 1), (24, .aaload, 1), (25, .getfield 109, 3), (28, .getfield 154, 3), (31, .invokevirtual 157, 3), (34, .iadd, 1), (35, .istore_n 1, 1), (36, .iinc 2 1, 3), (39, .goto (-35), 3)] 18 (by decide +kernel)
theorem dX5_trialPull_18 : decode cX5_trialPull 18 = .ok (.aaload, 1) := dgX5_trialPull_18.1
theorem dX5_trialPull_19 : decode cX5_trialPull 19 = .ok (.aload_n 0, 1) := dgX5_trialPull_18.2.1
theorem dX5_trialPull_20 : decode cX5_trialPull 20 = .ok (.getfield 25, 3) := dgX5_trialPull_18.2.2.1
theorem dX5_trialPull_23 : decode cX5_trialPull 23 = .ok (.iload_n 2, 1) := dgX5_trialPull_18.2.2.2.1
theorem dX5_trialPull_24 : decode cX5_trialPull 24 = .ok (.aaload, 1) := dgX5_trialPull_18.2.2.2.2.1
theorem dX5_trialPull_25 : decode cX5_trialPull 25 = .ok (.getfield 109, 3) := dgX5_trialPull_18.2.2.2.2.2.1
theorem dX5_trialPull_28 : decode cX5_trialPull 28 = .ok (.getfield 154, 3) := dgX5_trialPull_18.2.2.2.2.2.2.1
theorem dX5_trialPull_31 : decode cX5_trialPull 31 = .ok (.invokevirtual 157, 3) := dgX5_trialPull_18.2.2.2.2.2.2.2.1
theorem dX5_trialPull_34 : decode cX5_trialPull 34 = .ok (.iadd, 1) := dgX5_trialPull_18.2.2.2.2.2.2.2.2.1
theorem dX5_trialPull_35 : decode cX5_trialPull 35 = .ok (.istore_n 1, 1) := dgX5_trialPull_18.2.2.2.2.2.2.2.2.2.1
theorem dX5_trialPull_36 : decode cX5_trialPull 36 = .ok (.iinc 2 1, 3) := dgX5_trialPull_18.2.2.2.2.2.2.2.2.2.2.1
theorem dX5_trialPull_39 : decode cX5_trialPull 39 = .ok (.goto (-35), 3) := dgX5_trialPull_18.2.2.2.2.2.2.2.2.2.2.2.1
theorem dgX5_trialPull_42 : (decode cX5_trialPull 42 = .ok (.iconst 0, 1)) ∧ (decode cX5_trialPull 43 = .ok (.istore_n 2, 1)) ∧ (decode cX5_trialPull 44 = .ok (.iload_n 2, 1)) ∧ (decode cX5_trialPull 45 = .ok (.bipush 20, 2)) ∧ (decode cX5_trialPull 47 = .ok (.if_icmp .ge 18, 3)) ∧ (decode cX5_trialPull 50 = .ok (.iload_n 1, 1)) ∧ (decode cX5_trialPull 51 = .ok (.aload_n 0, 1)) ∧ (decode cX5_trialPull 52 = .ok (.getfield 29, 3)) ∧ (decode cX5_trialPull 55 = .ok (.iload_n 2, 1)) ∧ (decode cX5_trialPull 56 = .ok (.iaload, 1)) ∧ (decode cX5_trialPull 57 = .ok (.iadd, 1)) ∧ (decode cX5_trialPull 58 = .ok (.istore_n 1, 1)) ∧ True := dkW [(42, .iconst 0, 1), (43, .istore_n 2, 1), (44, .iload_n 2, 1), (45, .bipush 20, 2), (47, .if_icmp .ge 18, 3), (50, .iload_n 1, 1), (51, .aload_n 0, 1), (52, .getfield 29, 3), (55, .iload_n 2, 1), (56, .iaload, 1), (57, .iadd, 1), (58, .istore_n 1, 1)] 42 (by decide +kernel)
theorem dX5_trialPull_42 : decode cX5_trialPull 42 = .ok (.iconst 0, 1) := dgX5_trialPull_42.1
theorem dX5_trialPull_43 : decode cX5_trialPull 43 = .ok (.istore_n 2, 1) := dgX5_trialPull_42.2.1
theorem dX5_trialPull_44 : decode cX5_trialPull 44 = .ok (.iload_n 2, 1) := dgX5_trialPull_42.2.2.1
theorem dX5_trialPull_45 : decode cX5_trialPull 45 = .ok (.bipush 20, 2) := dgX5_trialPull_42.2.2.2.1
theorem dX5_trialPull_47 : decode cX5_trialPull 47 = .ok (.if_icmp .ge 18, 3) := dgX5_trialPull_42.2.2.2.2.1
theorem dX5_trialPull_50 : decode cX5_trialPull 50 = .ok (.iload_n 1, 1) := dgX5_trialPull_42.2.2.2.2.2.1
theorem dX5_trialPull_51 : decode cX5_trialPull 51 = .ok (.aload_n 0, 1) := dgX5_trialPull_42.2.2.2.2.2.2.1
theorem dX5_trialPull_52 : decode cX5_trialPull 52 = .ok (.getfield 29, 3) := dgX5_trialPull_42.2.2.2.2.2.2.2.1
theorem dX5_trialPull_55 : decode cX5_trialPull 55 = .ok (.iload_n 2, 1) := dgX5_trialPull_42.2.2.2.2.2.2.2.2.1
theorem dX5_trialPull_56 : decode cX5_trialPull 56 = .ok (.iaload, 1) := dgX5_trialPull_42.2.2.2.2.2.2.2.2.2.1
theorem dX5_trialPull_57 : decode cX5_trialPull 57 = .ok (.iadd, 1) := dgX5_trialPull_42.2.2.2.2.2.2.2.2.2.2.1
theorem dX5_trialPull_58 : decode cX5_trialPull 58 = .ok (.istore_n 1, 1) := dgX5_trialPull_42.2.2.2.2.2.2.2.2.2.2.2.1
theorem dgX5_trialPull_59 : (decode cX5_trialPull 59 = .ok (.iinc 2 1, 3)) ∧ (decode cX5_trialPull 62 = .ok (.goto (-18), 3)) ∧ (decode cX5_trialPull 65 = .ok (.iload_n 1, 1)) ∧ (decode cX5_trialPull 66 = .ok (.ireturn, 1)) ∧ True := dkW [(59, .iinc 2 1, 3), (62, .goto (-18), 3), (65, .iload_n 1, 1), (66, .ireturn, 1)] 59 (by decide +kernel)
theorem dX5_trialPull_59 : decode cX5_trialPull 59 = .ok (.iinc 2 1, 3) := dgX5_trialPull_59.1
theorem dX5_trialPull_62 : decode cX5_trialPull 62 = .ok (.goto (-18), 3) := dgX5_trialPull_59.2.1
theorem dX5_trialPull_65 : decode cX5_trialPull 65 = .ok (.iload_n 1, 1) := dgX5_trialPull_59.2.2.1
theorem dX5_trialPull_66 : decode cX5_trialPull 66 = .ok (.ireturn, 1) := dgX5_trialPull_59.2.2.2.1
abbrev rmX5_trialPull : Room := { frames := 2, cells := 0, slots := 0, locals := 42 }
noncomputable def fX5_trialPull_b44_body (N : Nat)  (g44 : Hs → Int32 → Int32 → Option (Int32 × Hs)) (t : Nat) (h : Hs) (x1 : Int32) (x2 : Int32) : Option (Int32 × Hs) :=
  if 20 ≤ x2 then (
  some (x1, h))
  else (oR 5 3 h (some t)).bind fun o1 =>
  (lA 20 h o1 x2).bind fun v2 =>
  (some (x1 + v2)).bind fun y3 =>
  (some (x2 + 1)).bind fun y4 =>
  g44 h y3 y4
noncomputable def fX5_trialPull_b44 (N : Nat)  (t : Nat) (n : Nat) : Hs → Int32 → Int32 → Option (Int32 × Hs) := lp (fun _ _ _ => none) (fun g h x1 x2 => fX5_trialPull_b44_body N  g t h x1 x2) n
set_option maxHeartbeats 4000000 in
set_option maxRecDepth 20000 in
theorem wX5_trialPull_b44_body {p : Program} {l : Launch} {e : Env} {s : State} {m : MethodId} {args : Array Value} {below : List Frame} {meth : Method} {c : Code} {G : Gl} {N : Nat} {h : Hs} {r : Int32 × Hs}  {g44 : Hs → Int32 → Int32 → Option (Int32 × Hs)} {t : Nat} {x1 : Int32} {x2 : Int32} (C : Cx p s m args meth c cX5_trialPull RX5 3 G) (hret : meth.sig.returnType = (some .int))  (hg44 : ∀ (h : Hs) (x1 : Int32) (x2 : Int32), g44 h x1 x2 = some r → V p l e rmX5_trialPull s m args below meth c G 3 (MQ below (QcG G (some (.inl r.1)) r.2) args s rmX5_trialPull.cells rmX5_trialPull.slots (AG G)) h 0 0 44 [some (.inr (some t)), some (.inl x1), some (.inl x2)] []) (hf : fX5_trialPull_b44_body N  g44 t h x1 x2 = some r) : V p l e rmX5_trialPull s m args below meth c G 3 (MQ below (QcG G (some (.inl r.1)) r.2) args s rmX5_trialPull.cells rmX5_trialPull.slots (AG G)) h 0 0 44 [some (.inr (some t)), some (.inl x1), some (.inl x2)] [] := by
  unfold fX5_trialPull_b44_body at hf
  refine r_iload_n C dX5_trialPull_44 rfl ?_
  refine r_bipush (v := 20) C dX5_trialPull_45 (by decide) ?_
  refine r_icmp_ge (tgt := 65) C dX5_trialPull_47 (by decide) (fun hc => ?_) (fun hc => ?_)
  · have hf := ifT hf hc
    refine r_iload_n C dX5_trialPull_65 rfl ?_
    exact r_iretF C dX5_trialPull_66 hret hf (by decide) (by decide)
  · have hf := ifF hf hc
    refine r_iload_n C dX5_trialPull_50 rfl ?_
    refine r_aload_n C dX5_trialPull_51 rfl ?_
    obtain ⟨o1, eo1, hf⟩ := bS hf
    refine r_getR C dX5_trialPull_52 fl_X5_29 rfl eo1 ?_
    refine r_iload_n C dX5_trialPull_55 rfl ?_
    obtain ⟨v2, ev2, hf⟩ := bS hf
    refine r_iald C dX5_trialPull_56 ev2 ?_
    refine r_iadd C dX5_trialPull_57 ?_
    obtain ⟨y3, ey3, hf⟩ := bS hf
    refine r_istore_nE C dX5_trialPull_58 (by decide) ey3 ?_
    obtain ⟨y4, ey4, hf⟩ := bS hf
    refine r_iincE (v := 1) C dX5_trialPull_59 rfl (by decide) (by decide) ey4 ?_
    refine r_goto (tgt := 44) C dX5_trialPull_62 (by decide) ?_
    exact V.sub (hg44 _ _ _ hf) (LW_s rfl (LW_s rfl (LW_s rfl (LW_e))))
theorem wX5_trialPull_b44 {p : Program} {l : Launch} {e : Env} {s : State} {m : MethodId} {args : Array Value} {below : List Frame} {meth : Method} {c : Code} {G : Gl} {N : Nat} {r : Int32 × Hs}  {t : Nat} (C : Cx p s m args meth c cX5_trialPull RX5 3 G) (hret : meth.sig.returnType = (some .int))  : ∀ (n : Nat) (h : Hs) (x1 : Int32) (x2 : Int32), fX5_trialPull_b44 N  t n h x1 x2 = some r → V p l e rmX5_trialPull s m args below meth c G 3 (MQ below (QcG G (some (.inl r.1)) r.2) args s rmX5_trialPull.cells rmX5_trialPull.slots (AG G)) h 0 0 44 [some (.inr (some t)), some (.inl x1), some (.inl x2)] [] := by
  intro n
  induction n with
  | zero => intro h x1 x2 hf; exact absurd (show (none : Option (Int32 × Hs)) = some r from hf) (fun q => by cases q)
  | succ n ih => intro h x1 x2 hf; exact wX5_trialPull_b44_body C hret  ih (show fX5_trialPull_b44_body N  (fX5_trialPull_b44 N  t n) t h x1 x2 = some r from hf)
noncomputable def fX5_trialPull_b4_body (N : Nat)  (g4 : Hs → Int32 → Int32 → Option (Int32 × Hs)) (t : Nat) (h : Hs) (x1 : Int32) (x2 : Int32) : Option (Int32 × Hs) :=
  (oI 5 9 h (some t)).bind fun v1 =>
  if v1 ≤ x2 then (
  fX5_trialPull_b44 N t N h x1 0)
  else (oR 5 2 h (some t)).bind fun o2 =>
  (lQ 25 h o2 x2).bind fun o3 =>
  (oR 5 2 h (some t)).bind fun o4 =>
  (lQ 25 h o4 x2).bind fun o5 =>
  (oR 4 1 h o5).bind fun o6 =>
  (oI 9 8 h o6).bind fun v7 =>
  (rc 4 h o3).bind fun a9 =>
  (fX4_pullAt N h a9 v7).bind fun r8 =>
  (some (x1 + r8.1)).bind fun y10 =>
  (some (x2 + 1)).bind fun y11 =>
  g4 r8.2 y10 y11
noncomputable def fX5_trialPull_b4 (N : Nat)  (t : Nat) (n : Nat) : Hs → Int32 → Int32 → Option (Int32 × Hs) := lp (fun _ _ _ => none) (fun g h x1 x2 => fX5_trialPull_b4_body N  g t h x1 x2) n
set_option maxHeartbeats 4000000 in
set_option maxRecDepth 20000 in
theorem wX5_trialPull_b4_body {p : Program} {l : Launch} {e : Env} {s : State} {m : MethodId} {args : Array Value} {below : List Frame} {meth : Method} {c : Code} {G : Gl} {N : Nat} {h : Hs} {r : Int32 × Hs}  {g4 : Hs → Int32 → Int32 → Option (Int32 × Hs)} {t : Nat} {x1 : Int32} {x2 : Int32} (C : Cx p s m args meth c cX5_trialPull RX5 3 G) (hret : meth.sig.returnType = (some .int))  (hg4 : ∀ (h : Hs) (x1 : Int32) (x2 : Int32), g4 h x1 x2 = some r → V p l e rmX5_trialPull s m args below meth c G 3 (MQ below (QcG G (some (.inl r.1)) r.2) args s rmX5_trialPull.cells rmX5_trialPull.slots (AG G)) h 0 0 4 [some (.inr (some t)), some (.inl x1), some (.inl x2)] []) (hf : fX5_trialPull_b4_body N  g4 t h x1 x2 = some r) : V p l e rmX5_trialPull s m args below meth c G 3 (MQ below (QcG G (some (.inl r.1)) r.2) args s rmX5_trialPull.cells rmX5_trialPull.slots (AG G)) h 0 0 4 [some (.inr (some t)), some (.inl x1), some (.inl x2)] [] := by
  unfold fX5_trialPull_b4_body at hf
  refine r_iload_n C dX5_trialPull_4 rfl ?_
  refine r_aload_n C dX5_trialPull_5 rfl ?_
  obtain ⟨v1, ev1, hf⟩ := bS hf
  refine r_getI C dX5_trialPull_6 fl_X5_57 rfl ev1 ?_
  refine r_icmp_ge (tgt := 42) C dX5_trialPull_9 (by decide) (fun hc => ?_) (fun hc => ?_)
  · have hf := ifT hf hc
    refine r_iconst (v := 0) C dX5_trialPull_42 (by decide) ?_
    refine r_istore_n C dX5_trialPull_43 (by decide) ?_
    exact V.sub (wX5_trialPull_b44 C hret N _ _ _ hf) (LW_s rfl (LW_s rfl (LW_s rfl (LW_e))))
  · have hf := ifF hf hc
    refine r_iload_n C dX5_trialPull_12 rfl ?_
    refine r_aload_n C dX5_trialPull_13 rfl ?_
    obtain ⟨o2, eo2, hf⟩ := bS hf
    refine r_getR C dX5_trialPull_14 fl_X5_25 rfl eo2 ?_
    refine r_iload_n C dX5_trialPull_17 rfl ?_
    obtain ⟨o3, eo3, hf⟩ := bS hf
    refine r_qald (t := 5) C dX5_trialPull_18 (by decide) (by decide) rfl eo3 ?_
    refine r_aload_n C dX5_trialPull_19 rfl ?_
    obtain ⟨o4, eo4, hf⟩ := bS hf
    refine r_getR C dX5_trialPull_20 fl_X5_25 rfl eo4 ?_
    refine r_iload_n C dX5_trialPull_23 rfl ?_
    obtain ⟨o5, eo5, hf⟩ := bS hf
    refine r_qald (t := 5) C dX5_trialPull_24 (by decide) (by decide) rfl eo5 ?_
    obtain ⟨o6, eo6, hf⟩ := bS hf
    refine r_getR C dX5_trialPull_25 fl_X5_109 rfl eo6 ?_
    obtain ⟨v7, ev7, hf⟩ := bS hf
    refine r_getI C dX5_trialPull_28 fl_X5_154 rfl ev7 ?_
    obtain ⟨a9, ea9, hf⟩ := bS hf
    obtain ⟨r8, er8, hf⟩ := bS hf
    refine r_invV1 (As := [.inl v7]) (ci := 4) C dX5_trialPull_31 mcX4_pullAt wd_578 wd_579 wd_580 rfl rfl (by decide) ⟨by decide, by decide⟩ ⟨by decide, by decide⟩ rfl (Nat.le_of_ble_eq_true rfl) ea9 (kX4_pullAt l G er8) ?_
    refine r_iadd C dX5_trialPull_34 ?_
    obtain ⟨y10, ey10, hf⟩ := bS hf
    refine r_istore_nE C dX5_trialPull_35 (by decide) ey10 ?_
    obtain ⟨y11, ey11, hf⟩ := bS hf
    refine r_iincE (v := 1) C dX5_trialPull_36 rfl (by decide) (by decide) ey11 ?_
    refine r_goto (tgt := 4) C dX5_trialPull_39 (by decide) ?_
    exact V.sub (hg4 _ _ _ hf) (LW_s rfl (LW_s rfl (LW_s rfl (LW_e))))
theorem wX5_trialPull_b4 {p : Program} {l : Launch} {e : Env} {s : State} {m : MethodId} {args : Array Value} {below : List Frame} {meth : Method} {c : Code} {G : Gl} {N : Nat} {r : Int32 × Hs}  {t : Nat} (C : Cx p s m args meth c cX5_trialPull RX5 3 G) (hret : meth.sig.returnType = (some .int))  : ∀ (n : Nat) (h : Hs) (x1 : Int32) (x2 : Int32), fX5_trialPull_b4 N  t n h x1 x2 = some r → V p l e rmX5_trialPull s m args below meth c G 3 (MQ below (QcG G (some (.inl r.1)) r.2) args s rmX5_trialPull.cells rmX5_trialPull.slots (AG G)) h 0 0 4 [some (.inr (some t)), some (.inl x1), some (.inl x2)] [] := by
  intro n
  induction n with
  | zero => intro h x1 x2 hf; exact absurd (show (none : Option (Int32 × Hs)) = some r from hf) (fun q => by cases q)
  | succ n ih => intro h x1 x2 hf; exact wX5_trialPull_b4_body C hret  ih (show fX5_trialPull_b4_body N  (fX5_trialPull_b4 N  t n) t h x1 x2 = some r from hf)
noncomputable def fX5_trialPull (N : Nat) (h : Hs) (t : Nat)  : Option (Int32 × Hs) :=
  fX5_trialPull_b4 N t N h 0 0
set_option maxHeartbeats 4000000 in
set_option maxRecDepth 20000 in
theorem kX5_trialPull (l : Launch) (G : Gl) {N : Nat} {h : Hs} {t : Nat}  {r : Int32 × Hs} (hf : fX5_trialPull N h t  = some r) : CT l G yX5_trialPull cX5_trialPull 3 (some .int) rmX5_trialPull [.inr (some t)] h (some (.inl r.1)) r.2 := by
  refine mk_CT (by decide) (Nat.le_of_ble_eq_true rfl) ?_
  intro p e s m args below meth c C hret hin
  unfold fX5_trialPull at hf
  refine r_iconst (v := 0) C dX5_trialPull_0 (by decide) ?_
  refine r_istore_n C dX5_trialPull_1 (by decide) ?_
  refine r_iconst (v := 0) C dX5_trialPull_2 (by decide) ?_
  refine r_istore_n C dX5_trialPull_3 (by decide) ?_
  exact V.sub (wX5_trialPull_b4 C hret N _ _ _ hf) (LW_s rfl (LW_s rfl (LW_s rfl (LW_e))))

theorem dgX5_pullNow_0 : (decode cX5_pullNow 0 = .ok (.aload_n 0, 1)) ∧ (decode cX5_pullNow 1 = .ok (.iconst 0, 1)) ∧ (decode cX5_pullNow 2 = .ok (.invokevirtual 136, 3)) ∧ (decode cX5_pullNow 5 = .ok (.aload_n 0, 1)) ∧ (decode cX5_pullNow 6 = .ok (.invokevirtual 140, 3)) ∧ (decode cX5_pullNow 9 = .ok (.ireturn, 1)) ∧ True := dkW [(0, .aload_n 0, 1), (1, .iconst 0, 1), (2, .invokevirtual 136, 3), (5, .aload_n 0, 1), (6, .invokevirtual 140, 3), (9, .ireturn, 1)] 0 (by decide +kernel)
theorem dX5_pullNow_0 : decode cX5_pullNow 0 = .ok (.aload_n 0, 1) := dgX5_pullNow_0.1
theorem dX5_pullNow_1 : decode cX5_pullNow 1 = .ok (.iconst 0, 1) := dgX5_pullNow_0.2.1
theorem dX5_pullNow_2 : decode cX5_pullNow 2 = .ok (.invokevirtual 136, 3) := dgX5_pullNow_0.2.2.1
theorem dX5_pullNow_5 : decode cX5_pullNow 5 = .ok (.aload_n 0, 1) := dgX5_pullNow_0.2.2.2.1
theorem dX5_pullNow_6 : decode cX5_pullNow 6 = .ok (.invokevirtual 140, 3) := dgX5_pullNow_0.2.2.2.2.1
theorem dX5_pullNow_9 : decode cX5_pullNow 9 = .ok (.ireturn, 1) := dgX5_pullNow_0.2.2.2.2.2.1
abbrev rmX5_pullNow : Room := { frames := 3, cells := 0, slots := 0, locals := 67 }
noncomputable def fX5_pullNow (N : Nat) (h : Hs) (t : Nat)  : Option (Int32 × Hs) :=
  (rc 5 h (some t)).bind fun a2 =>
  (fX5_place N h a2 0).bind fun r1 =>
  (rc 5 r1 (some t)).bind fun a4 =>
  (fX5_trialPull N r1 a4 ).bind fun r3 =>
  some (r3.1, r3.2)
set_option maxHeartbeats 4000000 in
set_option maxRecDepth 20000 in
theorem kX5_pullNow (l : Launch) (G : Gl) {N : Nat} {h : Hs} {t : Nat}  {r : Int32 × Hs} (hf : fX5_pullNow N h t  = some r) : CT l G yX5_pullNow cX5_pullNow 1 (some .int) rmX5_pullNow [.inr (some t)] h (some (.inl r.1)) r.2 := by
  refine mk_CT (by decide) (Nat.le_of_ble_eq_true rfl) ?_
  intro p e s m args below meth c C hret hin
  unfold fX5_pullNow at hf
  refine r_aload_n C dX5_pullNow_0 rfl ?_
  refine r_iconst (v := 0) C dX5_pullNow_1 (by decide) ?_
  obtain ⟨a2, ea2, hf⟩ := bS hf
  obtain ⟨r1, er1, hf⟩ := bS hf
  refine r_invV0 (As := [.inl 0]) (ci := 5) C dX5_pullNow_2 mcX5_place wd_559 wd_560 wd_561 rfl rfl (by decide) ⟨by decide, by decide⟩ ⟨by decide, by decide⟩ rfl (Nat.le_of_ble_eq_true rfl) ea2 (kX5_place l G er1) ?_
  refine r_aload_n C dX5_pullNow_5 rfl ?_
  obtain ⟨a4, ea4, hf⟩ := bS hf
  obtain ⟨r3, er3, hf⟩ := bS hf
  refine r_invV1 (As := []) (ci := 5) C dX5_pullNow_6 mcX5_trialPull wd_574 wd_575 wd_576 rfl rfl (by decide) ⟨by decide, by decide⟩ ⟨by decide, by decide⟩ rfl (Nat.le_of_ble_eq_true rfl) ea4 (kX5_trialPull l G er3) ?_
  exact r_iretF C dX5_pullNow_9 hret hf (by decide) (by decide)
