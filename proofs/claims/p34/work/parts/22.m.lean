theorem dgX12_menFor_0 : (decode cX12_menFor 0 = .ok (.iconst 0, 1)) ∧ (decode cX12_menFor 1 = .ok (.istore 5, 2)) ∧ (decode cX12_menFor 3 = .ok (.iload 5, 2)) ∧ (decode cX12_menFor 5 = .ok (.iload_n 1, 1)) ∧ (decode cX12_menFor 6 = .ok (.if_icmp .gt 211, 3)) ∧ (decode cX12_menFor 9 = .ok (.iconst 0, 1)) ∧ (decode cX12_menFor 10 = .ok (.istore 6, 2)) ∧ (decode cX12_menFor 12 = .ok (.iload 6, 2)) ∧ (decode cX12_menFor 14 = .ok (.iload_n 2, 1)) ∧ (decode cX12_menFor 15 = .ok (.if_icmp .gt 196, 3)) ∧ (decode cX12_menFor 18 = .ok (.iconst 0, 1)) ∧ (decode cX12_menFor 19 = .ok (.istore 7, 2)) ∧ True := dkW [(0, .iconst 0, 1), (1, .istore 5, 2), (3, .iload 5, 2), (5, .iload_n 1, 1), (6, .if_icmp .gt 211, 3), (9, .iconst 0, 1), (10, .istore 6, 2), (12, .iload 6, 2), (14, .iload_n 2, 1), (15, .if_icmp .gt 196, 3), (18, .iconst 0, 1), (19, .istore 7, 2)] 0 (by decide +kernel)
theorem dX12_menFor_0 : decode cX12_menFor 0 = .ok (.iconst 0, 1) := dgX12_menFor_0.1
theorem dX12_menFor_1 : decode cX12_menFor 1 = .ok (.istore 5, 2) := dgX12_menFor_0.2.1
theorem dX12_menFor_3 : decode cX12_menFor 3 = .ok (.iload 5, 2) := dgX12_menFor_0.2.2.1
theorem dX12_menFor_5 : decode cX12_menFor 5 = .ok (.iload_n 1, 1) := dgX12_menFor_0.2.2.2.1
theorem dX12_menFor_6 : decode cX12_menFor 6 = .ok (.if_icmp .gt 211, 3) := dgX12_menFor_0.2.2.2.2.1
theorem dX12_menFor_9 : decode cX12_menFor 9 = .ok (.iconst 0, 1) := dgX12_menFor_0.2.2.2.2.2.1
theorem dX12_menFor_10 : decode cX12_menFor 10 = .ok (.istore 6, 2) := dgX12_menFor_0.2.2.2.2.2.2.1
theorem dX12_menFor_12 : decode cX12_menFor 12 = .ok (.iload 6, 2) := dgX12_menFor_0.2.2.2.2.2.2.2.1
theorem dX12_menFor_14 : decode cX12_menFor 14 = .ok (.iload_n 2, 1) := dgX12_menFor_0.2.2.2.2.2.2.2.2.1
theorem dX12_menFor_15 : decode cX12_menFor 15 = .ok (.if_icmp .gt 196, 3) := dgX12_menFor_0.2.2.2.2.2.2.2.2.2.1
theorem dX12_menFor_18 : decode cX12_menFor 18 = .ok (.iconst 0, 1) := dgX12_menFor_0.2.2.2.2.2.2.2.2.2.2.1
theorem dX12_menFor_19 : decode cX12_menFor 19 = .ok (.istore 7, 2) := dgX12_menFor_0.2.2.2.2.2.2.2.2.2.2.2.1
theorem dgX12_menFor_21 : (decode cX12_menFor 21 = .ok (.iload 7, 2)) ∧ (decode cX12_menFor 23 = .ok (.iload_n 3, 1)) ∧ (decode cX12_menFor 24 = .ok (.if_icmp .gt 181, 3)) ∧ (decode cX12_menFor 27 = .ok (.iload 5, 2)) ∧ (decode cX12_menFor 29 = .ok (.iload 6, 2)) ∧ (decode cX12_menFor 31 = .ok (.iadd, 1)) ∧ (decode cX12_menFor 32 = .ok (.iload 7, 2)) ∧ (decode cX12_menFor 34 = .ok (.iadd, 1)) ∧ (decode cX12_menFor 35 = .ok (.ifCond .ne 7, 3)) ∧ (decode cX12_menFor 38 = .ok (.iconst 0, 1)) ∧ (decode cX12_menFor 39 = .ok (.goto 6, 3)) ∧ (decode cX12_menFor 42 = .ok (.sipush 1000, 3)) ∧ True := dkW [(21, .iload 7, 2), (23, .iload_n 3, 1), (24, .if_icmp .gt 181, 3), (27, .iload 5, 2), (29, .iload 6, 2), (31, .iadd, 1), (32, .iload 7, 2), (34, .iadd, 1), (35, .ifCond .ne 7, 3), (38, .iconst 0, 1), (39, .goto 6, 3), (42, .sipush 1000, 3)] 21 (by decide +kernel)
theorem dX12_menFor_21 : decode cX12_menFor 21 = .ok (.iload 7, 2) := dgX12_menFor_21.1
theorem dX12_menFor_23 : decode cX12_menFor 23 = .ok (.iload_n 3, 1) := dgX12_menFor_21.2.1
theorem dX12_menFor_24 : decode cX12_menFor 24 = .ok (.if_icmp .gt 181, 3) := dgX12_menFor_21.2.2.1
theorem dX12_menFor_27 : decode cX12_menFor 27 = .ok (.iload 5, 2) := dgX12_menFor_21.2.2.2.1
theorem dX12_menFor_29 : decode cX12_menFor 29 = .ok (.iload 6, 2) := dgX12_menFor_21.2.2.2.2.1
theorem dX12_menFor_31 : decode cX12_menFor 31 = .ok (.iadd, 1) := dgX12_menFor_21.2.2.2.2.2.1
theorem dX12_menFor_32 : decode cX12_menFor 32 = .ok (.iload 7, 2) := dgX12_menFor_21.2.2.2.2.2.2.1
theorem dX12_menFor_34 : decode cX12_menFor 34 = .ok (.iadd, 1) := dgX12_menFor_21.2.2.2.2.2.2.2.1
theorem dX12_menFor_35 : decode cX12_menFor 35 = .ok (.ifCond .ne 7, 3) := dgX12_menFor_21.2.2.2.2.2.2.2.2.1
theorem dX12_menFor_38 : decode cX12_menFor 38 = .ok (.iconst 0, 1) := dgX12_menFor_21.2.2.2.2.2.2.2.2.2.1
theorem dX12_menFor_39 : decode cX12_menFor 39 = .ok (.goto 6, 3) := dgX12_menFor_21.2.2.2.2.2.2.2.2.2.2.1
theorem dX12_menFor_42 : decode cX12_menFor 42 = .ok (.sipush 1000, 3) := dgX12_menFor_21.2.2.2.2.2.2.2.2.2.2.2.1
theorem dgX12_menFor_45 : (decode cX12_menFor 45 = .ok (.istore 8, 2)) ∧ (decode cX12_menFor 47 = .ok (.iconst 0, 1)) ∧ (decode cX12_menFor 48 = .ok (.istore 9, 2)) ∧ (decode cX12_menFor 50 = .ok (.iload 9, 2)) ∧ (decode cX12_menFor 52 = .ok (.iload 5, 2)) ∧ (decode cX12_menFor 54 = .ok (.if_icmp .gt 123, 3)) ∧ (decode cX12_menFor 57 = .ok (.iconst 0, 1)) ∧ (decode cX12_menFor 58 = .ok (.istore 10, 2)) ∧ (decode cX12_menFor 60 = .ok (.iload 10, 2)) ∧ (decode cX12_menFor 62 = .ok (.iload 6, 2)) ∧ (decode cX12_menFor 64 = .ok (.if_icmp .gt 107, 3)) ∧ (decode cX12_menFor 67 = .ok (.iconst 0, 1)) ∧ True := dkW [(45, .istore 8, 2), (47, .iconst 0, 1), (48, .istore 9, 2), (50, .iload 9, 2), (52, .iload 5, 2), (54, .if_icmp .gt 123, 3), (57, .iconst 0, 1), (58, .istore 10, 2), (60, .iload 10, 2), (62, .iload 6, 2), (64, .if_icmp .gt 107, 3), (67, .iconst 0, 1)] 45 (by decide +kernel)
theorem dX12_menFor_45 : decode cX12_menFor 45 = .ok (.istore 8, 2) := dgX12_menFor_45.1
theorem dX12_menFor_47 : decode cX12_menFor 47 = .ok (.iconst 0, 1) := dgX12_menFor_45.2.1
theorem dX12_menFor_48 : decode cX12_menFor 48 = .ok (.istore 9, 2) := dgX12_menFor_45.2.2.1
theorem dX12_menFor_50 : decode cX12_menFor 50 = .ok (.iload 9, 2) := dgX12_menFor_45.2.2.2.1
theorem dX12_menFor_52 : decode cX12_menFor 52 = .ok (.iload 5, 2) := dgX12_menFor_45.2.2.2.2.1
theorem dX12_menFor_54 : decode cX12_menFor 54 = .ok (.if_icmp .gt 123, 3) := dgX12_menFor_45.2.2.2.2.2.1
theorem dX12_menFor_57 : decode cX12_menFor 57 = .ok (.iconst 0, 1) := dgX12_menFor_45.2.2.2.2.2.2.1
theorem dX12_menFor_58 : decode cX12_menFor 58 = .ok (.istore 10, 2) := dgX12_menFor_45.2.2.2.2.2.2.2.1
theorem dX12_menFor_60 : decode cX12_menFor 60 = .ok (.iload 10, 2) := dgX12_menFor_45.2.2.2.2.2.2.2.2.1
theorem dX12_menFor_62 : decode cX12_menFor 62 = .ok (.iload 6, 2) := dgX12_menFor_45.2.2.2.2.2.2.2.2.2.1
theorem dX12_menFor_64 : decode cX12_menFor 64 = .ok (.if_icmp .gt 107, 3) := dgX12_menFor_45.2.2.2.2.2.2.2.2.2.2.1
theorem dX12_menFor_67 : decode cX12_menFor 67 = .ok (.iconst 0, 1) := dgX12_menFor_45.2.2.2.2.2.2.2.2.2.2.2.1
theorem dgX12_menFor_68 : (decode cX12_menFor 68 = .ok (.istore 11, 2)) ∧ (decode cX12_menFor 70 = .ok (.iload 11, 2)) ∧ (decode cX12_menFor 72 = .ok (.iload 7, 2)) ∧ (decode cX12_menFor 74 = .ok (.if_icmp .gt 91, 3)) ∧ (decode cX12_menFor 77 = .ok (.iload 9, 2)) ∧ (decode cX12_menFor 79 = .ok (.iload 10, 2)) ∧ (decode cX12_menFor 81 = .ok (.iadd, 1)) ∧ (decode cX12_menFor 82 = .ok (.iload 11, 2)) ∧ (decode cX12_menFor 84 = .ok (.iadd, 1)) ∧ (decode cX12_menFor 85 = .ok (.ifCond .eq 74, 3)) ∧ (decode cX12_menFor 88 = .ok (.iconst 5, 1)) ∧ (decode cX12_menFor 89 = .ok (.iload 9, 2)) ∧ True := dkW [(68, .istore 11, 2), (70, .iload 11, 2), (72, .iload 7, 2), (74, .if_icmp .gt 91, 3), (77, .iload 9, 2), (79, .iload 10, 2), (81, .iadd, 1), (82, .iload 11, 2), (84, .iadd, 1), (85, .ifCond .eq 74, 3), (88, .iconst 5, 1), (89, .iload 9, 2)] 68 (by decide +kernel)
theorem dX12_menFor_68 : decode cX12_menFor 68 = .ok (.istore 11, 2) := dgX12_menFor_68.1
theorem dX12_menFor_70 : decode cX12_menFor 70 = .ok (.iload 11, 2) := dgX12_menFor_68.2.1
theorem dX12_menFor_72 : decode cX12_menFor 72 = .ok (.iload 7, 2) := dgX12_menFor_68.2.2.1
theorem dX12_menFor_74 : decode cX12_menFor 74 = .ok (.if_icmp .gt 91, 3) := dgX12_menFor_68.2.2.2.1
theorem dX12_menFor_77 : decode cX12_menFor 77 = .ok (.iload 9, 2) := dgX12_menFor_68.2.2.2.2.1
theorem dX12_menFor_79 : decode cX12_menFor 79 = .ok (.iload 10, 2) := dgX12_menFor_68.2.2.2.2.2.1
theorem dX12_menFor_81 : decode cX12_menFor 81 = .ok (.iadd, 1) := dgX12_menFor_68.2.2.2.2.2.2.1
theorem dX12_menFor_82 : decode cX12_menFor 82 = .ok (.iload 11, 2) := dgX12_menFor_68.2.2.2.2.2.2.2.1
theorem dX12_menFor_84 : decode cX12_menFor 84 = .ok (.iadd, 1) := dgX12_menFor_68.2.2.2.2.2.2.2.2.1
theorem dX12_menFor_85 : decode cX12_menFor 85 = .ok (.ifCond .eq 74, 3) := dgX12_menFor_68.2.2.2.2.2.2.2.2.2.1
theorem dX12_menFor_88 : decode cX12_menFor 88 = .ok (.iconst 5, 1) := dgX12_menFor_68.2.2.2.2.2.2.2.2.2.2.1
theorem dX12_menFor_89 : decode cX12_menFor 89 = .ok (.iload 9, 2) := dgX12_menFor_68.2.2.2.2.2.2.2.2.2.2.2.1
theorem dgX12_menFor_91 : (decode cX12_menFor 91 = .ok (.imul, 1)) ∧ (decode cX12_menFor 92 = .ok (.iconst 3, 1)) ∧ (decode cX12_menFor 93 = .ok (.iload 10, 2)) ∧ (decode cX12_menFor 95 = .ok (.imul, 1)) ∧ (decode cX12_menFor 96 = .ok (.iadd, 1)) ∧ (decode cX12_menFor 97 = .ok (.iconst 2, 1)) ∧ (decode cX12_menFor 98 = .ok (.iload 11, 2)) ∧ (decode cX12_menFor 100 = .ok (.imul, 1)) ∧ (decode cX12_menFor 101 = .ok (.iadd, 1)) ∧ (decode cX12_menFor 102 = .ok (.iload 4, 2)) ∧ (decode cX12_menFor 104 = .ok (.if_icmp .le 6, 3)) ∧ (decode cX12_menFor 107 = .ok (.goto 52, 3)) ∧ True := dkW [(91, .imul, 1), (92, .iconst 3, 1), (93, .iload 10, 2), (95, .imul, 1), (96, .iadd, 1), (97, .iconst 2, 1), (98, .iload 11, 2), (100, .imul, 1), (101, .iadd, 1), (102, .iload 4, 2), (104, .if_icmp .le 6, 3), (107, .goto 52, 3)] 91 (by decide +kernel)
theorem dX12_menFor_91 : decode cX12_menFor 91 = .ok (.imul, 1) := dgX12_menFor_91.1
theorem dX12_menFor_92 : decode cX12_menFor 92 = .ok (.iconst 3, 1) := dgX12_menFor_91.2.1
theorem dX12_menFor_93 : decode cX12_menFor 93 = .ok (.iload 10, 2) := dgX12_menFor_91.2.2.1
theorem dX12_menFor_95 : decode cX12_menFor 95 = .ok (.imul, 1) := dgX12_menFor_91.2.2.2.1
theorem dX12_menFor_96 : decode cX12_menFor 96 = .ok (.iadd, 1) := dgX12_menFor_91.2.2.2.2.1
theorem dX12_menFor_97 : decode cX12_menFor 97 = .ok (.iconst 2, 1) := dgX12_menFor_91.2.2.2.2.2.1
theorem dX12_menFor_98 : decode cX12_menFor 98 = .ok (.iload 11, 2) := dgX12_menFor_91.2.2.2.2.2.2.1
theorem dX12_menFor_100 : decode cX12_menFor 100 = .ok (.imul, 1) := dgX12_menFor_91.2.2.2.2.2.2.2.1
theorem dX12_menFor_101 : decode cX12_menFor 101 = .ok (.iadd, 1) := dgX12_menFor_91.2.2.2.2.2.2.2.2.1
theorem dX12_menFor_102 : decode cX12_menFor 102 = .ok (.iload 4, 2) := dgX12_menFor_91.2.2.2.2.2.2.2.2.2.1
theorem dX12_menFor_104 : decode cX12_menFor 104 = .ok (.if_icmp .le 6, 3) := dgX12_menFor_91.2.2.2.2.2.2.2.2.2.2.1
theorem dX12_menFor_107 : decode cX12_menFor 107 = .ok (.goto 52, 3) := dgX12_menFor_91.2.2.2.2.2.2.2.2.2.2.2.1
theorem dgX12_menFor_110 : (decode cX12_menFor 110 = .ok (.iconst 1, 1)) ∧ (decode cX12_menFor 111 = .ok (.aload_n 0, 1)) ∧ (decode cX12_menFor 112 = .ok (.getfield 88, 3)) ∧ (decode cX12_menFor 115 = .ok (.sipush 169, 3)) ∧ (decode cX12_menFor 118 = .ok (.iload 5, 2)) ∧ (decode cX12_menFor 120 = .ok (.iload 9, 2)) ∧ (decode cX12_menFor 122 = .ok (.isub, 1)) ∧ (decode cX12_menFor 123 = .ok (.imul, 1)) ∧ (decode cX12_menFor 124 = .ok (.bipush 13, 2)) ∧ (decode cX12_menFor 126 = .ok (.iload 6, 2)) ∧ (decode cX12_menFor 128 = .ok (.iload 10, 2)) ∧ (decode cX12_menFor 130 = .ok (.isub, 1)) ∧ True := dkW [(110, .iconst 1, 1), (111, .aload_n 0, 1), (112, .getfield 88, 3), (115, .sipush 169, 3), (118, .iload 5, 2), (120, .iload 9, 2), (122, .isub, 1), (123, .imul, 1), (124, .bipush 13, 2), (126, .iload 6, 2), (128, .iload 10, 2), (130, .isub, 1)] 110 (by decide +kernel)
theorem dX12_menFor_110 : decode cX12_menFor 110 = .ok (.iconst 1, 1) := dgX12_menFor_110.1
theorem dX12_menFor_111 : decode cX12_menFor 111 = .ok (.aload_n 0, 1) := dgX12_menFor_110.2.1
theorem dX12_menFor_112 : decode cX12_menFor 112 = .ok (.getfield 88, 3) := dgX12_menFor_110.2.2.1
theorem dX12_menFor_115 : decode cX12_menFor 115 = .ok (.sipush 169, 3) := dgX12_menFor_110.2.2.2.1
theorem dX12_menFor_118 : decode cX12_menFor 118 = .ok (.iload 5, 2) := dgX12_menFor_110.2.2.2.2.1
theorem dX12_menFor_120 : decode cX12_menFor 120 = .ok (.iload 9, 2) := dgX12_menFor_110.2.2.2.2.2.1
theorem dX12_menFor_122 : decode cX12_menFor 122 = .ok (.isub, 1) := dgX12_menFor_110.2.2.2.2.2.2.1
theorem dX12_menFor_123 : decode cX12_menFor 123 = .ok (.imul, 1) := dgX12_menFor_110.2.2.2.2.2.2.2.1
theorem dX12_menFor_124 : decode cX12_menFor 124 = .ok (.bipush 13, 2) := dgX12_menFor_110.2.2.2.2.2.2.2.2.1
theorem dX12_menFor_126 : decode cX12_menFor 126 = .ok (.iload 6, 2) := dgX12_menFor_110.2.2.2.2.2.2.2.2.2.1
theorem dX12_menFor_128 : decode cX12_menFor 128 = .ok (.iload 10, 2) := dgX12_menFor_110.2.2.2.2.2.2.2.2.2.2.1
theorem dX12_menFor_130 : decode cX12_menFor 130 = .ok (.isub, 1) := dgX12_menFor_110.2.2.2.2.2.2.2.2.2.2.2.1
theorem dgX12_menFor_131 : (decode cX12_menFor 131 = .ok (.imul, 1)) ∧ (decode cX12_menFor 132 = .ok (.iadd, 1)) ∧ (decode cX12_menFor 133 = .ok (.iload 7, 2)) ∧ (decode cX12_menFor 135 = .ok (.iadd, 1)) ∧ (decode cX12_menFor 136 = .ok (.iload 11, 2)) ∧ (decode cX12_menFor 138 = .ok (.isub, 1)) ∧ (decode cX12_menFor 139 = .ok (.iaload, 1)) ∧ (decode cX12_menFor 140 = .ok (.iadd, 1)) ∧ (decode cX12_menFor 141 = .ok (.istore 12, 2)) ∧ (decode cX12_menFor 143 = .ok (.iload 12, 2)) ∧ (decode cX12_menFor 145 = .ok (.iload 8, 2)) ∧ (decode cX12_menFor 147 = .ok (.if_icmp .ge 8, 3)) ∧ True := dkW [(131, .imul, 1), (132, .iadd, 1), (133, .iload 7, 2), (135, .iadd, 1), (136, .iload 11, 2), (138, .isub, 1), (139, .iaload, 1), (140, .iadd, 1), (141, .istore 12, 2), (143, .iload 12, 2), (145, .iload 8, 2), (147, .if_icmp .ge 8, 3)] 131 (by decide +kernel)
theorem dX12_menFor_131 : decode cX12_menFor 131 = .ok (.imul, 1) := dgX12_menFor_131.1
theorem dX12_menFor_132 : decode cX12_menFor 132 = .ok (.iadd, 1) := dgX12_menFor_131.2.1
theorem dX12_menFor_133 : decode cX12_menFor 133 = .ok (.iload 7, 2) := dgX12_menFor_131.2.2.1
theorem dX12_menFor_135 : decode cX12_menFor 135 = .ok (.iadd, 1) := dgX12_menFor_131.2.2.2.1
theorem dX12_menFor_136 : decode cX12_menFor 136 = .ok (.iload 11, 2) := dgX12_menFor_131.2.2.2.2.1
theorem dX12_menFor_138 : decode cX12_menFor 138 = .ok (.isub, 1) := dgX12_menFor_131.2.2.2.2.2.1
theorem dX12_menFor_139 : decode cX12_menFor 139 = .ok (.iaload, 1) := dgX12_menFor_131.2.2.2.2.2.2.1
theorem dX12_menFor_140 : decode cX12_menFor 140 = .ok (.iadd, 1) := dgX12_menFor_131.2.2.2.2.2.2.2.1
theorem dX12_menFor_141 : decode cX12_menFor 141 = .ok (.istore 12, 2) := dgX12_menFor_131.2.2.2.2.2.2.2.2.1
theorem dX12_menFor_143 : decode cX12_menFor 143 = .ok (.iload 12, 2) := dgX12_menFor_131.2.2.2.2.2.2.2.2.2.1
theorem dX12_menFor_145 : decode cX12_menFor 145 = .ok (.iload 8, 2) := dgX12_menFor_131.2.2.2.2.2.2.2.2.2.2.1
theorem dX12_menFor_147 : decode cX12_menFor 147 = .ok (.if_icmp .ge 8, 3) := dgX12_menFor_131.2.2.2.2.2.2.2.2.2.2.2.1
theorem dgX12_menFor_150 : (decode cX12_menFor 150 = .ok (.iload 12, 2)) ∧ (decode cX12_menFor 152 = .ok (.goto 5, 3)) ∧ (decode cX12_menFor 155 = .ok (.iload 8, 2)) ∧ (decode cX12_menFor 157 = .ok (.istore 8, 2)) ∧ (decode cX12_menFor 159 = .ok (.iinc 11 1, 3)) ∧ (decode cX12_menFor 162 = .ok (.goto (-92), 3)) ∧ (decode cX12_menFor 165 = .ok (.iinc 10 1, 3)) ∧ (decode cX12_menFor 168 = .ok (.goto (-108), 3)) ∧ (decode cX12_menFor 171 = .ok (.iinc 9 1, 3)) ∧ (decode cX12_menFor 174 = .ok (.goto (-124), 3)) ∧ (decode cX12_menFor 177 = .ok (.aload_n 0, 1)) ∧ (decode cX12_menFor 178 = .ok (.getfield 88, 3)) ∧ True := dkW [(150, .iload 12, 2), (152, .goto 5, 3), (155, .iload 8, 2), (157, .istore 8, 2), (159, .iinc 11 1, 3), (162, .goto (-92), 3), (165, .iinc 10 1, 3), (168, .goto (-108), 3), (171, .iinc 9 1, 3), (174, .goto (-124), 3), (177, .aload_n 0, 1), (178, .getfield 88, 3)] 150 (by decide +kernel)
theorem dX12_menFor_150 : decode cX12_menFor 150 = .ok (.iload 12, 2) := dgX12_menFor_150.1
theorem dX12_menFor_152 : decode cX12_menFor 152 = .ok (.goto 5, 3) := dgX12_menFor_150.2.1
theorem dX12_menFor_155 : decode cX12_menFor 155 = .ok (.iload 8, 2) := dgX12_menFor_150.2.2.1
theorem dX12_menFor_157 : decode cX12_menFor 157 = .ok (.istore 8, 2) := dgX12_menFor_150.2.2.2.1
theorem dX12_menFor_159 : decode cX12_menFor 159 = .ok (.iinc 11 1, 3) := dgX12_menFor_150.2.2.2.2.1
theorem dX12_menFor_162 : decode cX12_menFor 162 = .ok (.goto (-92), 3) := dgX12_menFor_150.2.2.2.2.2.1
theorem dX12_menFor_165 : decode cX12_menFor 165 = .ok (.iinc 10 1, 3) := dgX12_menFor_150.2.2.2.2.2.2.1
theorem dX12_menFor_168 : decode cX12_menFor 168 = .ok (.goto (-108), 3) := dgX12_menFor_150.2.2.2.2.2.2.2.1
theorem dX12_menFor_171 : decode cX12_menFor 171 = .ok (.iinc 9 1, 3) := dgX12_menFor_150.2.2.2.2.2.2.2.2.1
theorem dX12_menFor_174 : decode cX12_menFor 174 = .ok (.goto (-124), 3) := dgX12_menFor_150.2.2.2.2.2.2.2.2.2.1
theorem dX12_menFor_177 : decode cX12_menFor 177 = .ok (.aload_n 0, 1) := dgX12_menFor_150.2.2.2.2.2.2.2.2.2.2.1
theorem dX12_menFor_178 : decode cX12_menFor 178 = .ok (.getfield 88, 3) := dgX12_menFor_150.2.2.2.2.2.2.2.2.2.2.2.1
theorem dgX12_menFor_181 : (decode cX12_menFor 181 = .ok (.sipush 169, 3)) ∧ (decode cX12_menFor 184 = .ok (.iload 5, 2)) ∧ (decode cX12_menFor 186 = .ok (.imul, 1)) ∧ (decode cX12_menFor 187 = .ok (.bipush 13, 2)) ∧ (decode cX12_menFor 189 = .ok (.iload 6, 2)) ∧ (decode cX12_menFor 191 = .ok (.imul, 1)) ∧ (decode cX12_menFor 192 = .ok (.iadd, 1)) ∧ (decode cX12_menFor 193 = .ok (.iload 7, 2)) ∧ (decode cX12_menFor 195 = .ok (.iadd, 1)) ∧ (decode cX12_menFor 196 = .ok (.iload 8, 2)) ∧ (decode cX12_menFor 198 = .ok (.iastore, 1)) ∧ (decode cX12_menFor 199 = .ok (.iinc 7 1, 3)) ∧ True := dkW [(181, .sipush 169, 3), (184, .iload 5, 2), (186, .imul, 1), (187, .bipush 13, 2), (189, .iload 6, 2), (191, .imul, 1), (192, .iadd, 1), (193, .iload 7, 2), (195, .iadd, 1), (196, .iload 8, 2), (198, .iastore, 1), (199, .iinc 7 1, 3)] 181 (by decide +kernel)
theorem dX12_menFor_181 : decode cX12_menFor 181 = .ok (.sipush 169, 3) := dgX12_menFor_181.1
theorem dX12_menFor_184 : decode cX12_menFor 184 = .ok (.iload 5, 2) := dgX12_menFor_181.2.1
theorem dX12_menFor_186 : decode cX12_menFor 186 = .ok (.imul, 1) := dgX12_menFor_181.2.2.1
theorem dX12_menFor_187 : decode cX12_menFor 187 = .ok (.bipush 13, 2) := dgX12_menFor_181.2.2.2.1
theorem dX12_menFor_189 : decode cX12_menFor 189 = .ok (.iload 6, 2) := dgX12_menFor_181.2.2.2.2.1
theorem dX12_menFor_191 : decode cX12_menFor 191 = .ok (.imul, 1) := dgX12_menFor_181.2.2.2.2.2.1
theorem dX12_menFor_192 : decode cX12_menFor 192 = .ok (.iadd, 1) := dgX12_menFor_181.2.2.2.2.2.2.1
theorem dX12_menFor_193 : decode cX12_menFor 193 = .ok (.iload 7, 2) := dgX12_menFor_181.2.2.2.2.2.2.2.1
theorem dX12_menFor_195 : decode cX12_menFor 195 = .ok (.iadd, 1) := dgX12_menFor_181.2.2.2.2.2.2.2.2.1
theorem dX12_menFor_196 : decode cX12_menFor 196 = .ok (.iload 8, 2) := dgX12_menFor_181.2.2.2.2.2.2.2.2.2.1
theorem dX12_menFor_198 : decode cX12_menFor 198 = .ok (.iastore, 1) := dgX12_menFor_181.2.2.2.2.2.2.2.2.2.2.1
theorem dX12_menFor_199 : decode cX12_menFor 199 = .ok (.iinc 7 1, 3) := dgX12_menFor_181.2.2.2.2.2.2.2.2.2.2.2.1
theorem dgX12_menFor_202 : (decode cX12_menFor 202 = .ok (.goto (-181), 3)) ∧ (decode cX12_menFor 205 = .ok (.iinc 6 1, 3)) ∧ (decode cX12_menFor 208 = .ok (.goto (-196), 3)) ∧ (decode cX12_menFor 211 = .ok (.iinc 5 1, 3)) ∧ (decode cX12_menFor 214 = .ok (.goto (-211), 3)) ∧ (decode cX12_menFor 217 = .ok (.aload_n 0, 1)) ∧ (decode cX12_menFor 218 = .ok (.getfield 88, 3)) ∧ (decode cX12_menFor 221 = .ok (.sipush 169, 3)) ∧ (decode cX12_menFor 224 = .ok (.iload_n 1, 1)) ∧ (decode cX12_menFor 225 = .ok (.imul, 1)) ∧ (decode cX12_menFor 226 = .ok (.bipush 13, 2)) ∧ (decode cX12_menFor 228 = .ok (.iload_n 2, 1)) ∧ True := dkW [(202, .goto (-181), 3), (205, .iinc 6 1, 3), (208, .goto (-196), 3), (211, .iinc 5 1, 3), (214, .goto (-211), 3), (217, .aload_n 0, 1), (218, .getfield 88, 3), (221, .sipush 169, 3), (224, .iload_n 1, 1), (225, .imul, 1), (226, .bipush 13, 2), (228, .iload_n 2, 1)] 202 (by decide +kernel)
theorem dX12_menFor_202 : decode cX12_menFor 202 = .ok (.goto (-181), 3) := dgX12_menFor_202.1
theorem dX12_menFor_205 : decode cX12_menFor 205 = .ok (.iinc 6 1, 3) := dgX12_menFor_202.2.1
theorem dX12_menFor_208 : decode cX12_menFor 208 = .ok (.goto (-196), 3) := dgX12_menFor_202.2.2.1
theorem dX12_menFor_211 : decode cX12_menFor 211 = .ok (.iinc 5 1, 3) := dgX12_menFor_202.2.2.2.1
theorem dX12_menFor_214 : decode cX12_menFor 214 = .ok (.goto (-211), 3) := dgX12_menFor_202.2.2.2.2.1
theorem dX12_menFor_217 : decode cX12_menFor 217 = .ok (.aload_n 0, 1) := dgX12_menFor_202.2.2.2.2.2.1
theorem dX12_menFor_218 : decode cX12_menFor 218 = .ok (.getfield 88, 3) := dgX12_menFor_202.2.2.2.2.2.2.1
theorem dX12_menFor_221 : decode cX12_menFor 221 = .ok (.sipush 169, 3) := dgX12_menFor_202.2.2.2.2.2.2.2.1
theorem dX12_menFor_224 : decode cX12_menFor 224 = .ok (.iload_n 1, 1) := dgX12_menFor_202.2.2.2.2.2.2.2.2.1
theorem dX12_menFor_225 : decode cX12_menFor 225 = .ok (.imul, 1) := dgX12_menFor_202.2.2.2.2.2.2.2.2.2.1
theorem dX12_menFor_226 : decode cX12_menFor 226 = .ok (.bipush 13, 2) := dgX12_menFor_202.2.2.2.2.2.2.2.2.2.2.1
theorem dX12_menFor_228 : decode cX12_menFor 228 = .ok (.iload_n 2, 1) := dgX12_menFor_202.2.2.2.2.2.2.2.2.2.2.2.1
theorem dgX12_menFor_229 : (decode cX12_menFor 229 = .ok (.imul, 1)) ∧ (decode cX12_menFor 230 = .ok (.iadd, 1)) ∧ (decode cX12_menFor 231 = .ok (.iload_n 3, 1)) ∧ (decode cX12_menFor 232 = .ok (.iadd, 1)) ∧ (decode cX12_menFor 233 = .ok (.iaload, 1)) ∧ (decode cX12_menFor 234 = .ok (.ireturn, 1)) ∧ True := dkW [(229, .imul, 1), (230, .iadd, 1), (231, .iload_n 3, 1), (232, .iadd, 1), (233, .iaload, 1), (234, .ireturn, 1)] 229 (by decide +kernel)
theorem dX12_menFor_229 : decode cX12_menFor 229 = .ok (.imul, 1) := dgX12_menFor_229.1
theorem dX12_menFor_230 : decode cX12_menFor 230 = .ok (.iadd, 1) := dgX12_menFor_229.2.1
theorem dX12_menFor_231 : decode cX12_menFor 231 = .ok (.iload_n 3, 1) := dgX12_menFor_229.2.2.1
theorem dX12_menFor_232 : decode cX12_menFor 232 = .ok (.iadd, 1) := dgX12_menFor_229.2.2.2.1
theorem dX12_menFor_233 : decode cX12_menFor 233 = .ok (.iaload, 1) := dgX12_menFor_229.2.2.2.2.1
theorem dX12_menFor_234 : decode cX12_menFor 234 = .ok (.ireturn, 1) := dgX12_menFor_229.2.2.2.2.2.1
abbrev rmX12_menFor : Room := { frames := 0, cells := 0, slots := 0, locals := 0 }
noncomputable def fX12_menFor_b159 (N : Nat) (g3 : Hs → Int32 → Int32 → Int32 → Int32 → Int32 → Option (Int32 × Hs)) (g12 : Hs → Int32 → Int32 → Int32 → Int32 → Int32 → Int32 → Option (Int32 × Hs)) (g21 : Hs → Int32 → Int32 → Int32 → Int32 → Int32 → Int32 → Int32 → Option (Int32 × Hs)) (g50 : Hs → Int32 → Int32 → Int32 → Int32 → Int32 → Int32 → Int32 → Int32 → Int32 → Option (Int32 × Hs)) (g60 : Hs → Int32 → Int32 → Int32 → Int32 → Int32 → Int32 → Int32 → Int32 → Int32 → Int32 → Option (Int32 × Hs)) (g70 : Hs → Int32 → Int32 → Int32 → Int32 → Int32 → Int32 → Int32 → Int32 → Int32 → Int32 → Int32 → Option (Int32 × Hs)) (t : Nat) (h : Hs) (x1 : Int32) (x2 : Int32) (x3 : Int32) (x4 : Int32) (x5 : Int32) (x6 : Int32) (x7 : Int32) (x8 : Int32) (x9 : Int32) (x10 : Int32) (x11 : Int32) : Option (Int32 × Hs) :=
  (some (x11 + 1)).bind fun y1 =>
  g70 h x1 x2 x3 x4 x5 x6 x7 x8 x9 x10 y1
set_option maxHeartbeats 4000000 in
set_option maxRecDepth 20000 in
theorem wX12_menFor_b159 {p : Program} {l : Launch} {e : Env} {s : State} {m : MethodId} {args : Array Value} {below : List Frame} {meth : Method} {c : Code} {G : Gl} {N : Nat} {h : Hs} {r : Int32 × Hs} {g3 : Hs → Int32 → Int32 → Int32 → Int32 → Int32 → Option (Int32 × Hs)} {g12 : Hs → Int32 → Int32 → Int32 → Int32 → Int32 → Int32 → Option (Int32 × Hs)} {g21 : Hs → Int32 → Int32 → Int32 → Int32 → Int32 → Int32 → Int32 → Option (Int32 × Hs)} {g50 : Hs → Int32 → Int32 → Int32 → Int32 → Int32 → Int32 → Int32 → Int32 → Int32 → Option (Int32 × Hs)} {g60 : Hs → Int32 → Int32 → Int32 → Int32 → Int32 → Int32 → Int32 → Int32 → Int32 → Int32 → Option (Int32 × Hs)} {g70 : Hs → Int32 → Int32 → Int32 → Int32 → Int32 → Int32 → Int32 → Int32 → Int32 → Int32 → Int32 → Option (Int32 × Hs)} {t : Nat} {x1 : Int32} {x2 : Int32} {x3 : Int32} {x4 : Int32} {x5 : Int32} {x6 : Int32} {x7 : Int32} {x8 : Int32} {x9 : Int32} {x10 : Int32} {x11 : Int32} (C : Cx p s m args meth c cX12_menFor RX12 13 G) (hret : meth.sig.returnType = (some .int)) (hg3 : ∀ (h : Hs) (x1 : Int32) (x2 : Int32) (x3 : Int32) (x4 : Int32) (x5 : Int32), g3 h x1 x2 x3 x4 x5 = some r → V p l e rmX12_menFor s m args below meth c G 13 (MQ below (QcG G (some (.inl r.1)) r.2) args s rmX12_menFor.cells rmX12_menFor.slots (AG G)) h 0 0 3 [some (.inr (some t)), some (.inl x1), some (.inl x2), some (.inl x3), some (.inl x4), some (.inl x5), none, none, none, none, none, none, none] []) (hg12 : ∀ (h : Hs) (x1 : Int32) (x2 : Int32) (x3 : Int32) (x4 : Int32) (x5 : Int32) (x6 : Int32), g12 h x1 x2 x3 x4 x5 x6 = some r → V p l e rmX12_menFor s m args below meth c G 13 (MQ below (QcG G (some (.inl r.1)) r.2) args s rmX12_menFor.cells rmX12_menFor.slots (AG G)) h 0 0 12 [some (.inr (some t)), some (.inl x1), some (.inl x2), some (.inl x3), some (.inl x4), some (.inl x5), some (.inl x6), none, none, none, none, none, none] []) (hg21 : ∀ (h : Hs) (x1 : Int32) (x2 : Int32) (x3 : Int32) (x4 : Int32) (x5 : Int32) (x6 : Int32) (x7 : Int32), g21 h x1 x2 x3 x4 x5 x6 x7 = some r → V p l e rmX12_menFor s m args below meth c G 13 (MQ below (QcG G (some (.inl r.1)) r.2) args s rmX12_menFor.cells rmX12_menFor.slots (AG G)) h 0 0 21 [some (.inr (some t)), some (.inl x1), some (.inl x2), some (.inl x3), some (.inl x4), some (.inl x5), some (.inl x6), some (.inl x7), none, none, none, none, none] []) (hg50 : ∀ (h : Hs) (x1 : Int32) (x2 : Int32) (x3 : Int32) (x4 : Int32) (x5 : Int32) (x6 : Int32) (x7 : Int32) (x8 : Int32) (x9 : Int32), g50 h x1 x2 x3 x4 x5 x6 x7 x8 x9 = some r → V p l e rmX12_menFor s m args below meth c G 13 (MQ below (QcG G (some (.inl r.1)) r.2) args s rmX12_menFor.cells rmX12_menFor.slots (AG G)) h 0 0 50 [some (.inr (some t)), some (.inl x1), some (.inl x2), some (.inl x3), some (.inl x4), some (.inl x5), some (.inl x6), some (.inl x7), some (.inl x8), some (.inl x9), none, none, none] []) (hg60 : ∀ (h : Hs) (x1 : Int32) (x2 : Int32) (x3 : Int32) (x4 : Int32) (x5 : Int32) (x6 : Int32) (x7 : Int32) (x8 : Int32) (x9 : Int32) (x10 : Int32), g60 h x1 x2 x3 x4 x5 x6 x7 x8 x9 x10 = some r → V p l e rmX12_menFor s m args below meth c G 13 (MQ below (QcG G (some (.inl r.1)) r.2) args s rmX12_menFor.cells rmX12_menFor.slots (AG G)) h 0 0 60 [some (.inr (some t)), some (.inl x1), some (.inl x2), some (.inl x3), some (.inl x4), some (.inl x5), some (.inl x6), some (.inl x7), some (.inl x8), some (.inl x9), some (.inl x10), none, none] []) (hg70 : ∀ (h : Hs) (x1 : Int32) (x2 : Int32) (x3 : Int32) (x4 : Int32) (x5 : Int32) (x6 : Int32) (x7 : Int32) (x8 : Int32) (x9 : Int32) (x10 : Int32) (x11 : Int32), g70 h x1 x2 x3 x4 x5 x6 x7 x8 x9 x10 x11 = some r → V p l e rmX12_menFor s m args below meth c G 13 (MQ below (QcG G (some (.inl r.1)) r.2) args s rmX12_menFor.cells rmX12_menFor.slots (AG G)) h 0 0 70 [some (.inr (some t)), some (.inl x1), some (.inl x2), some (.inl x3), some (.inl x4), some (.inl x5), some (.inl x6), some (.inl x7), some (.inl x8), some (.inl x9), some (.inl x10), some (.inl x11), none] []) (hf : fX12_menFor_b159 N g3 g12 g21 g50 g60 g70 t h x1 x2 x3 x4 x5 x6 x7 x8 x9 x10 x11 = some r) : V p l e rmX12_menFor s m args below meth c G 13 (MQ below (QcG G (some (.inl r.1)) r.2) args s rmX12_menFor.cells rmX12_menFor.slots (AG G)) h 0 0 159 [some (.inr (some t)), some (.inl x1), some (.inl x2), some (.inl x3), some (.inl x4), some (.inl x5), some (.inl x6), some (.inl x7), some (.inl x8), some (.inl x9), some (.inl x10), some (.inl x11), none] [] := by
  unfold fX12_menFor_b159 at hf
  obtain ⟨y1, ey1, hf⟩ := bS hf
  refine r_iincE (v := 1) C dX12_menFor_159 rfl (by decide) (by decide) ey1 ?_
  refine r_goto (tgt := 70) C dX12_menFor_162 (by decide) ?_
  exact V.sub (hg70 _ _ _ _ _ _ _ _ _ _ _ _ hf) (LW_s rfl (LW_s rfl (LW_s rfl (LW_s rfl (LW_s rfl (LW_s rfl (LW_s rfl (LW_s rfl (LW_s rfl (LW_s rfl (LW_s rfl (LW_s rfl (LW_n (LW_e))))))))))))))
noncomputable def fX12_menFor_b157 (N : Nat) (g3 : Hs → Int32 → Int32 → Int32 → Int32 → Int32 → Option (Int32 × Hs)) (g12 : Hs → Int32 → Int32 → Int32 → Int32 → Int32 → Int32 → Option (Int32 × Hs)) (g21 : Hs → Int32 → Int32 → Int32 → Int32 → Int32 → Int32 → Int32 → Option (Int32 × Hs)) (g50 : Hs → Int32 → Int32 → Int32 → Int32 → Int32 → Int32 → Int32 → Int32 → Int32 → Option (Int32 × Hs)) (g60 : Hs → Int32 → Int32 → Int32 → Int32 → Int32 → Int32 → Int32 → Int32 → Int32 → Int32 → Option (Int32 × Hs)) (g70 : Hs → Int32 → Int32 → Int32 → Int32 → Int32 → Int32 → Int32 → Int32 → Int32 → Int32 → Int32 → Option (Int32 × Hs)) (t : Nat) (h : Hs) (x1 : Int32) (x2 : Int32) (x3 : Int32) (x4 : Int32) (x5 : Int32) (x6 : Int32) (x7 : Int32) (x9 : Int32) (x10 : Int32) (x11 : Int32) (u0 : Int32) : Option (Int32 × Hs) :=
  fX12_menFor_b159 N g3 g12 g21 g50 g60 g70 t h x1 x2 x3 x4 x5 x6 x7 u0 x9 x10 x11
set_option maxHeartbeats 4000000 in
set_option maxRecDepth 20000 in
theorem wX12_menFor_b157 {p : Program} {l : Launch} {e : Env} {s : State} {m : MethodId} {args : Array Value} {below : List Frame} {meth : Method} {c : Code} {G : Gl} {N : Nat} {h : Hs} {r : Int32 × Hs} {g3 : Hs → Int32 → Int32 → Int32 → Int32 → Int32 → Option (Int32 × Hs)} {g12 : Hs → Int32 → Int32 → Int32 → Int32 → Int32 → Int32 → Option (Int32 × Hs)} {g21 : Hs → Int32 → Int32 → Int32 → Int32 → Int32 → Int32 → Int32 → Option (Int32 × Hs)} {g50 : Hs → Int32 → Int32 → Int32 → Int32 → Int32 → Int32 → Int32 → Int32 → Int32 → Option (Int32 × Hs)} {g60 : Hs → Int32 → Int32 → Int32 → Int32 → Int32 → Int32 → Int32 → Int32 → Int32 → Int32 → Option (Int32 × Hs)} {g70 : Hs → Int32 → Int32 → Int32 → Int32 → Int32 → Int32 → Int32 → Int32 → Int32 → Int32 → Int32 → Option (Int32 × Hs)} {t : Nat} {x1 : Int32} {x2 : Int32} {x3 : Int32} {x4 : Int32} {x5 : Int32} {x6 : Int32} {x7 : Int32} {x9 : Int32} {x10 : Int32} {x11 : Int32} {u0 : Int32} (C : Cx p s m args meth c cX12_menFor RX12 13 G) (hret : meth.sig.returnType = (some .int)) (hg3 : ∀ (h : Hs) (x1 : Int32) (x2 : Int32) (x3 : Int32) (x4 : Int32) (x5 : Int32), g3 h x1 x2 x3 x4 x5 = some r → V p l e rmX12_menFor s m args below meth c G 13 (MQ below (QcG G (some (.inl r.1)) r.2) args s rmX12_menFor.cells rmX12_menFor.slots (AG G)) h 0 0 3 [some (.inr (some t)), some (.inl x1), some (.inl x2), some (.inl x3), some (.inl x4), some (.inl x5), none, none, none, none, none, none, none] []) (hg12 : ∀ (h : Hs) (x1 : Int32) (x2 : Int32) (x3 : Int32) (x4 : Int32) (x5 : Int32) (x6 : Int32), g12 h x1 x2 x3 x4 x5 x6 = some r → V p l e rmX12_menFor s m args below meth c G 13 (MQ below (QcG G (some (.inl r.1)) r.2) args s rmX12_menFor.cells rmX12_menFor.slots (AG G)) h 0 0 12 [some (.inr (some t)), some (.inl x1), some (.inl x2), some (.inl x3), some (.inl x4), some (.inl x5), some (.inl x6), none, none, none, none, none, none] []) (hg21 : ∀ (h : Hs) (x1 : Int32) (x2 : Int32) (x3 : Int32) (x4 : Int32) (x5 : Int32) (x6 : Int32) (x7 : Int32), g21 h x1 x2 x3 x4 x5 x6 x7 = some r → V p l e rmX12_menFor s m args below meth c G 13 (MQ below (QcG G (some (.inl r.1)) r.2) args s rmX12_menFor.cells rmX12_menFor.slots (AG G)) h 0 0 21 [some (.inr (some t)), some (.inl x1), some (.inl x2), some (.inl x3), some (.inl x4), some (.inl x5), some (.inl x6), some (.inl x7), none, none, none, none, none] []) (hg50 : ∀ (h : Hs) (x1 : Int32) (x2 : Int32) (x3 : Int32) (x4 : Int32) (x5 : Int32) (x6 : Int32) (x7 : Int32) (x8 : Int32) (x9 : Int32), g50 h x1 x2 x3 x4 x5 x6 x7 x8 x9 = some r → V p l e rmX12_menFor s m args below meth c G 13 (MQ below (QcG G (some (.inl r.1)) r.2) args s rmX12_menFor.cells rmX12_menFor.slots (AG G)) h 0 0 50 [some (.inr (some t)), some (.inl x1), some (.inl x2), some (.inl x3), some (.inl x4), some (.inl x5), some (.inl x6), some (.inl x7), some (.inl x8), some (.inl x9), none, none, none] []) (hg60 : ∀ (h : Hs) (x1 : Int32) (x2 : Int32) (x3 : Int32) (x4 : Int32) (x5 : Int32) (x6 : Int32) (x7 : Int32) (x8 : Int32) (x9 : Int32) (x10 : Int32), g60 h x1 x2 x3 x4 x5 x6 x7 x8 x9 x10 = some r → V p l e rmX12_menFor s m args below meth c G 13 (MQ below (QcG G (some (.inl r.1)) r.2) args s rmX12_menFor.cells rmX12_menFor.slots (AG G)) h 0 0 60 [some (.inr (some t)), some (.inl x1), some (.inl x2), some (.inl x3), some (.inl x4), some (.inl x5), some (.inl x6), some (.inl x7), some (.inl x8), some (.inl x9), some (.inl x10), none, none] []) (hg70 : ∀ (h : Hs) (x1 : Int32) (x2 : Int32) (x3 : Int32) (x4 : Int32) (x5 : Int32) (x6 : Int32) (x7 : Int32) (x8 : Int32) (x9 : Int32) (x10 : Int32) (x11 : Int32), g70 h x1 x2 x3 x4 x5 x6 x7 x8 x9 x10 x11 = some r → V p l e rmX12_menFor s m args below meth c G 13 (MQ below (QcG G (some (.inl r.1)) r.2) args s rmX12_menFor.cells rmX12_menFor.slots (AG G)) h 0 0 70 [some (.inr (some t)), some (.inl x1), some (.inl x2), some (.inl x3), some (.inl x4), some (.inl x5), some (.inl x6), some (.inl x7), some (.inl x8), some (.inl x9), some (.inl x10), some (.inl x11), none] []) (hf : fX12_menFor_b157 N g3 g12 g21 g50 g60 g70 t h x1 x2 x3 x4 x5 x6 x7 x9 x10 x11 u0 = some r) : V p l e rmX12_menFor s m args below meth c G 13 (MQ below (QcG G (some (.inl r.1)) r.2) args s rmX12_menFor.cells rmX12_menFor.slots (AG G)) h 0 0 157 [some (.inr (some t)), some (.inl x1), some (.inl x2), some (.inl x3), some (.inl x4), some (.inl x5), some (.inl x6), some (.inl x7), none, some (.inl x9), some (.inl x10), some (.inl x11), none] [.inl u0] := by
  unfold fX12_menFor_b157 at hf
  refine r_istore C dX12_menFor_157 (by decide) ?_
  exact V.sub (wX12_menFor_b159 C hret hg3 hg12 hg21 hg50 hg60 hg70 hf) (LW_s rfl (LW_s rfl (LW_s rfl (LW_s rfl (LW_s rfl (LW_s rfl (LW_s rfl (LW_s rfl (LW_s rfl (LW_s rfl (LW_s rfl (LW_s rfl (LW_n (LW_e))))))))))))))
noncomputable def fX12_menFor_b70_body (N : Nat) (g3 : Hs → Int32 → Int32 → Int32 → Int32 → Int32 → Option (Int32 × Hs)) (g12 : Hs → Int32 → Int32 → Int32 → Int32 → Int32 → Int32 → Option (Int32 × Hs)) (g21 : Hs → Int32 → Int32 → Int32 → Int32 → Int32 → Int32 → Int32 → Option (Int32 × Hs)) (g50 : Hs → Int32 → Int32 → Int32 → Int32 → Int32 → Int32 → Int32 → Int32 → Int32 → Option (Int32 × Hs)) (g60 : Hs → Int32 → Int32 → Int32 → Int32 → Int32 → Int32 → Int32 → Int32 → Int32 → Int32 → Option (Int32 × Hs)) (g70 : Hs → Int32 → Int32 → Int32 → Int32 → Int32 → Int32 → Int32 → Int32 → Int32 → Int32 → Int32 → Option (Int32 × Hs)) (t : Nat) (h : Hs) (x1 : Int32) (x2 : Int32) (x3 : Int32) (x4 : Int32) (x5 : Int32) (x6 : Int32) (x7 : Int32) (x8 : Int32) (x9 : Int32) (x10 : Int32) (x11 : Int32) : Option (Int32 × Hs) :=
  if x7 < x11 then (
  (some (x10 + 1)).bind fun y1 =>
  g60 h x1 x2 x3 x4 x5 x6 x7 x8 x9 y1)
  else if ((x9 + x10) + x11) = 0 then (
  fX12_menFor_b159 N g3 g12 g21 g50 g60 g70 t h x1 x2 x3 x4 x5 x6 x7 x8 x9 x10 x11)
  else if (((5 * x9) + (3 * x10)) + (2 * x11)) ≤ x4 then (
  (oR 12 35 h (some t)).bind fun o2 =>
  (lA 20 h o2 ((((169 * (x5 - x9)) + (13 * (x6 - x10))) + x7) - x11)).bind fun v3 =>
  (some (1 + v3)).bind fun y4 =>
  if x8 ≤ y4 then (
  fX12_menFor_b157 N g3 g12 g21 g50 g60 g70 t h x1 x2 x3 x4 x5 x6 x7 x9 x10 x11 x8)
  else fX12_menFor_b157 N g3 g12 g21 g50 g60 g70 t h x1 x2 x3 x4 x5 x6 x7 x9 x10 x11 y4)
  else fX12_menFor_b159 N g3 g12 g21 g50 g60 g70 t h x1 x2 x3 x4 x5 x6 x7 x8 x9 x10 x11
noncomputable def fX12_menFor_b70 (N : Nat) (g3 : Hs → Int32 → Int32 → Int32 → Int32 → Int32 → Option (Int32 × Hs)) (g12 : Hs → Int32 → Int32 → Int32 → Int32 → Int32 → Int32 → Option (Int32 × Hs)) (g21 : Hs → Int32 → Int32 → Int32 → Int32 → Int32 → Int32 → Int32 → Option (Int32 × Hs)) (g50 : Hs → Int32 → Int32 → Int32 → Int32 → Int32 → Int32 → Int32 → Int32 → Int32 → Option (Int32 × Hs)) (g60 : Hs → Int32 → Int32 → Int32 → Int32 → Int32 → Int32 → Int32 → Int32 → Int32 → Int32 → Option (Int32 × Hs)) (t : Nat) (n : Nat) : Hs → Int32 → Int32 → Int32 → Int32 → Int32 → Int32 → Int32 → Int32 → Int32 → Int32 → Int32 → Option (Int32 × Hs) := lp (fun _ _ _ _ _ _ _ _ _ _ _ _ => none) (fun g h x1 x2 x3 x4 x5 x6 x7 x8 x9 x10 x11 => fX12_menFor_b70_body N g3 g12 g21 g50 g60 g t h x1 x2 x3 x4 x5 x6 x7 x8 x9 x10 x11) n
set_option maxHeartbeats 4000000 in
set_option maxRecDepth 20000 in
theorem wX12_menFor_b70_body {p : Program} {l : Launch} {e : Env} {s : State} {m : MethodId} {args : Array Value} {below : List Frame} {meth : Method} {c : Code} {G : Gl} {N : Nat} {h : Hs} {r : Int32 × Hs} {g3 : Hs → Int32 → Int32 → Int32 → Int32 → Int32 → Option (Int32 × Hs)} {g12 : Hs → Int32 → Int32 → Int32 → Int32 → Int32 → Int32 → Option (Int32 × Hs)} {g21 : Hs → Int32 → Int32 → Int32 → Int32 → Int32 → Int32 → Int32 → Option (Int32 × Hs)} {g50 : Hs → Int32 → Int32 → Int32 → Int32 → Int32 → Int32 → Int32 → Int32 → Int32 → Option (Int32 × Hs)} {g60 : Hs → Int32 → Int32 → Int32 → Int32 → Int32 → Int32 → Int32 → Int32 → Int32 → Int32 → Option (Int32 × Hs)} {g70 : Hs → Int32 → Int32 → Int32 → Int32 → Int32 → Int32 → Int32 → Int32 → Int32 → Int32 → Int32 → Option (Int32 × Hs)} {t : Nat} {x1 : Int32} {x2 : Int32} {x3 : Int32} {x4 : Int32} {x5 : Int32} {x6 : Int32} {x7 : Int32} {x8 : Int32} {x9 : Int32} {x10 : Int32} {x11 : Int32} (C : Cx p s m args meth c cX12_menFor RX12 13 G) (hret : meth.sig.returnType = (some .int)) (hg3 : ∀ (h : Hs) (x1 : Int32) (x2 : Int32) (x3 : Int32) (x4 : Int32) (x5 : Int32), g3 h x1 x2 x3 x4 x5 = some r → V p l e rmX12_menFor s m args below meth c G 13 (MQ below (QcG G (some (.inl r.1)) r.2) args s rmX12_menFor.cells rmX12_menFor.slots (AG G)) h 0 0 3 [some (.inr (some t)), some (.inl x1), some (.inl x2), some (.inl x3), some (.inl x4), some (.inl x5), none, none, none, none, none, none, none] []) (hg12 : ∀ (h : Hs) (x1 : Int32) (x2 : Int32) (x3 : Int32) (x4 : Int32) (x5 : Int32) (x6 : Int32), g12 h x1 x2 x3 x4 x5 x6 = some r → V p l e rmX12_menFor s m args below meth c G 13 (MQ below (QcG G (some (.inl r.1)) r.2) args s rmX12_menFor.cells rmX12_menFor.slots (AG G)) h 0 0 12 [some (.inr (some t)), some (.inl x1), some (.inl x2), some (.inl x3), some (.inl x4), some (.inl x5), some (.inl x6), none, none, none, none, none, none] []) (hg21 : ∀ (h : Hs) (x1 : Int32) (x2 : Int32) (x3 : Int32) (x4 : Int32) (x5 : Int32) (x6 : Int32) (x7 : Int32), g21 h x1 x2 x3 x4 x5 x6 x7 = some r → V p l e rmX12_menFor s m args below meth c G 13 (MQ below (QcG G (some (.inl r.1)) r.2) args s rmX12_menFor.cells rmX12_menFor.slots (AG G)) h 0 0 21 [some (.inr (some t)), some (.inl x1), some (.inl x2), some (.inl x3), some (.inl x4), some (.inl x5), some (.inl x6), some (.inl x7), none, none, none, none, none] []) (hg50 : ∀ (h : Hs) (x1 : Int32) (x2 : Int32) (x3 : Int32) (x4 : Int32) (x5 : Int32) (x6 : Int32) (x7 : Int32) (x8 : Int32) (x9 : Int32), g50 h x1 x2 x3 x4 x5 x6 x7 x8 x9 = some r → V p l e rmX12_menFor s m args below meth c G 13 (MQ below (QcG G (some (.inl r.1)) r.2) args s rmX12_menFor.cells rmX12_menFor.slots (AG G)) h 0 0 50 [some (.inr (some t)), some (.inl x1), some (.inl x2), some (.inl x3), some (.inl x4), some (.inl x5), some (.inl x6), some (.inl x7), some (.inl x8), some (.inl x9), none, none, none] []) (hg60 : ∀ (h : Hs) (x1 : Int32) (x2 : Int32) (x3 : Int32) (x4 : Int32) (x5 : Int32) (x6 : Int32) (x7 : Int32) (x8 : Int32) (x9 : Int32) (x10 : Int32), g60 h x1 x2 x3 x4 x5 x6 x7 x8 x9 x10 = some r → V p l e rmX12_menFor s m args below meth c G 13 (MQ below (QcG G (some (.inl r.1)) r.2) args s rmX12_menFor.cells rmX12_menFor.slots (AG G)) h 0 0 60 [some (.inr (some t)), some (.inl x1), some (.inl x2), some (.inl x3), some (.inl x4), some (.inl x5), some (.inl x6), some (.inl x7), some (.inl x8), some (.inl x9), some (.inl x10), none, none] []) (hg70 : ∀ (h : Hs) (x1 : Int32) (x2 : Int32) (x3 : Int32) (x4 : Int32) (x5 : Int32) (x6 : Int32) (x7 : Int32) (x8 : Int32) (x9 : Int32) (x10 : Int32) (x11 : Int32), g70 h x1 x2 x3 x4 x5 x6 x7 x8 x9 x10 x11 = some r → V p l e rmX12_menFor s m args below meth c G 13 (MQ below (QcG G (some (.inl r.1)) r.2) args s rmX12_menFor.cells rmX12_menFor.slots (AG G)) h 0 0 70 [some (.inr (some t)), some (.inl x1), some (.inl x2), some (.inl x3), some (.inl x4), some (.inl x5), some (.inl x6), some (.inl x7), some (.inl x8), some (.inl x9), some (.inl x10), some (.inl x11), none] []) (hf : fX12_menFor_b70_body N g3 g12 g21 g50 g60 g70 t h x1 x2 x3 x4 x5 x6 x7 x8 x9 x10 x11 = some r) : V p l e rmX12_menFor s m args below meth c G 13 (MQ below (QcG G (some (.inl r.1)) r.2) args s rmX12_menFor.cells rmX12_menFor.slots (AG G)) h 0 0 70 [some (.inr (some t)), some (.inl x1), some (.inl x2), some (.inl x3), some (.inl x4), some (.inl x5), some (.inl x6), some (.inl x7), some (.inl x8), some (.inl x9), some (.inl x10), some (.inl x11), none] [] := by
  unfold fX12_menFor_b70_body at hf
  refine r_iload C dX12_menFor_70 rfl ?_
  refine r_iload C dX12_menFor_72 rfl ?_
  refine r_icmp_gt (tgt := 165) C dX12_menFor_74 (by decide) (fun hc => ?_) (fun hc => ?_)
  · have hf := ifT hf hc
    obtain ⟨y1, ey1, hf⟩ := bS hf
    refine r_iincE (v := 1) C dX12_menFor_165 rfl (by decide) (by decide) ey1 ?_
    refine r_goto (tgt := 60) C dX12_menFor_168 (by decide) ?_
    exact V.sub (hg60 _ _ _ _ _ _ _ _ _ _ _ hf) (LW_s rfl (LW_s rfl (LW_s rfl (LW_s rfl (LW_s rfl (LW_s rfl (LW_s rfl (LW_s rfl (LW_s rfl (LW_s rfl (LW_s rfl (LW_n (LW_n (LW_e))))))))))))))
  · have hf := ifF hf hc
    refine r_iload C dX12_menFor_77 rfl ?_
    refine r_iload C dX12_menFor_79 rfl ?_
    refine r_iadd C dX12_menFor_81 ?_
    refine r_iload C dX12_menFor_82 rfl ?_
    refine r_iadd C dX12_menFor_84 ?_
    refine r_if_eq (tgt := 159) C dX12_menFor_85 (by decide) (fun hc => ?_) (fun hc => ?_)
    · have hf := ifT hf hc
      exact V.sub (wX12_menFor_b159 C hret hg3 hg12 hg21 hg50 hg60 hg70 hf) (LW_s rfl (LW_s rfl (LW_s rfl (LW_s rfl (LW_s rfl (LW_s rfl (LW_s rfl (LW_s rfl (LW_s rfl (LW_s rfl (LW_s rfl (LW_s rfl (LW_n (LW_e))))))))))))))
    · have hf := ifF hf hc
      refine r_iconst (v := 5) C dX12_menFor_88 (by decide) ?_
      refine r_iload C dX12_menFor_89 rfl ?_
      refine r_imul C dX12_menFor_91 ?_
      refine r_iconst (v := 3) C dX12_menFor_92 (by decide) ?_
      refine r_iload C dX12_menFor_93 rfl ?_
      refine r_imul C dX12_menFor_95 ?_
      refine r_iadd C dX12_menFor_96 ?_
      refine r_iconst (v := 2) C dX12_menFor_97 (by decide) ?_
      refine r_iload C dX12_menFor_98 rfl ?_
      refine r_imul C dX12_menFor_100 ?_
      refine r_iadd C dX12_menFor_101 ?_
      refine r_iload C dX12_menFor_102 rfl ?_
      refine r_icmp_le (tgt := 110) C dX12_menFor_104 (by decide) (fun hc => ?_) (fun hc => ?_)
      · have hf := ifT hf hc
        refine r_iconst (v := 1) C dX12_menFor_110 (by decide) ?_
        refine r_aload_n C dX12_menFor_111 rfl ?_
        obtain ⟨o2, eo2, hf⟩ := bS hf
        refine r_getR C dX12_menFor_112 fl_X12_88 rfl eo2 ?_
        refine r_sipush (v := 169) C dX12_menFor_115 (by decide) ?_
        refine r_iload C dX12_menFor_118 rfl ?_
        refine r_iload C dX12_menFor_120 rfl ?_
        refine r_isub C dX12_menFor_122 ?_
        refine r_imul C dX12_menFor_123 ?_
        refine r_bipush (v := 13) C dX12_menFor_124 (by decide) ?_
        refine r_iload C dX12_menFor_126 rfl ?_
        refine r_iload C dX12_menFor_128 rfl ?_
        refine r_isub C dX12_menFor_130 ?_
        refine r_imul C dX12_menFor_131 ?_
        refine r_iadd C dX12_menFor_132 ?_
        refine r_iload C dX12_menFor_133 rfl ?_
        refine r_iadd C dX12_menFor_135 ?_
        refine r_iload C dX12_menFor_136 rfl ?_
        refine r_isub C dX12_menFor_138 ?_
        obtain ⟨v3, ev3, hf⟩ := bS hf
        refine r_iald C dX12_menFor_139 ev3 ?_
        refine r_iadd C dX12_menFor_140 ?_
        obtain ⟨y4, ey4, hf⟩ := bS hf
        refine r_istoreE C dX12_menFor_141 (by decide) ey4 ?_
        refine r_iload C dX12_menFor_143 rfl ?_
        refine r_iload C dX12_menFor_145 rfl ?_
        refine r_icmp_ge (tgt := 155) C dX12_menFor_147 (by decide) (fun hc => ?_) (fun hc => ?_)
        · have hf := ifT hf hc
          refine r_iload C dX12_menFor_155 rfl ?_
          exact V.sub (wX12_menFor_b157 C hret hg3 hg12 hg21 hg50 hg60 hg70 hf) (LW_s rfl (LW_s rfl (LW_s rfl (LW_s rfl (LW_s rfl (LW_s rfl (LW_s rfl (LW_s rfl (LW_n (LW_s rfl (LW_s rfl (LW_s rfl (LW_n (LW_e))))))))))))))
        · have hf := ifF hf hc
          refine r_iload C dX12_menFor_150 rfl ?_
          refine r_goto (tgt := 157) C dX12_menFor_152 (by decide) ?_
          exact V.sub (wX12_menFor_b157 C hret hg3 hg12 hg21 hg50 hg60 hg70 hf) (LW_s rfl (LW_s rfl (LW_s rfl (LW_s rfl (LW_s rfl (LW_s rfl (LW_s rfl (LW_s rfl (LW_n (LW_s rfl (LW_s rfl (LW_s rfl (LW_n (LW_e))))))))))))))
      · have hf := ifF hf hc
        refine r_goto (tgt := 159) C dX12_menFor_107 (by decide) ?_
        exact V.sub (wX12_menFor_b159 C hret hg3 hg12 hg21 hg50 hg60 hg70 hf) (LW_s rfl (LW_s rfl (LW_s rfl (LW_s rfl (LW_s rfl (LW_s rfl (LW_s rfl (LW_s rfl (LW_s rfl (LW_s rfl (LW_s rfl (LW_s rfl (LW_n (LW_e))))))))))))))
theorem wX12_menFor_b70 {p : Program} {l : Launch} {e : Env} {s : State} {m : MethodId} {args : Array Value} {below : List Frame} {meth : Method} {c : Code} {G : Gl} {N : Nat} {r : Int32 × Hs} {g3 : Hs → Int32 → Int32 → Int32 → Int32 → Int32 → Option (Int32 × Hs)} {g12 : Hs → Int32 → Int32 → Int32 → Int32 → Int32 → Int32 → Option (Int32 × Hs)} {g21 : Hs → Int32 → Int32 → Int32 → Int32 → Int32 → Int32 → Int32 → Option (Int32 × Hs)} {g50 : Hs → Int32 → Int32 → Int32 → Int32 → Int32 → Int32 → Int32 → Int32 → Int32 → Option (Int32 × Hs)} {g60 : Hs → Int32 → Int32 → Int32 → Int32 → Int32 → Int32 → Int32 → Int32 → Int32 → Int32 → Option (Int32 × Hs)} {t : Nat} (C : Cx p s m args meth c cX12_menFor RX12 13 G) (hret : meth.sig.returnType = (some .int)) (hg3 : ∀ (h : Hs) (x1 : Int32) (x2 : Int32) (x3 : Int32) (x4 : Int32) (x5 : Int32), g3 h x1 x2 x3 x4 x5 = some r → V p l e rmX12_menFor s m args below meth c G 13 (MQ below (QcG G (some (.inl r.1)) r.2) args s rmX12_menFor.cells rmX12_menFor.slots (AG G)) h 0 0 3 [some (.inr (some t)), some (.inl x1), some (.inl x2), some (.inl x3), some (.inl x4), some (.inl x5), none, none, none, none, none, none, none] []) (hg12 : ∀ (h : Hs) (x1 : Int32) (x2 : Int32) (x3 : Int32) (x4 : Int32) (x5 : Int32) (x6 : Int32), g12 h x1 x2 x3 x4 x5 x6 = some r → V p l e rmX12_menFor s m args below meth c G 13 (MQ below (QcG G (some (.inl r.1)) r.2) args s rmX12_menFor.cells rmX12_menFor.slots (AG G)) h 0 0 12 [some (.inr (some t)), some (.inl x1), some (.inl x2), some (.inl x3), some (.inl x4), some (.inl x5), some (.inl x6), none, none, none, none, none, none] []) (hg21 : ∀ (h : Hs) (x1 : Int32) (x2 : Int32) (x3 : Int32) (x4 : Int32) (x5 : Int32) (x6 : Int32) (x7 : Int32), g21 h x1 x2 x3 x4 x5 x6 x7 = some r → V p l e rmX12_menFor s m args below meth c G 13 (MQ below (QcG G (some (.inl r.1)) r.2) args s rmX12_menFor.cells rmX12_menFor.slots (AG G)) h 0 0 21 [some (.inr (some t)), some (.inl x1), some (.inl x2), some (.inl x3), some (.inl x4), some (.inl x5), some (.inl x6), some (.inl x7), none, none, none, none, none] []) (hg50 : ∀ (h : Hs) (x1 : Int32) (x2 : Int32) (x3 : Int32) (x4 : Int32) (x5 : Int32) (x6 : Int32) (x7 : Int32) (x8 : Int32) (x9 : Int32), g50 h x1 x2 x3 x4 x5 x6 x7 x8 x9 = some r → V p l e rmX12_menFor s m args below meth c G 13 (MQ below (QcG G (some (.inl r.1)) r.2) args s rmX12_menFor.cells rmX12_menFor.slots (AG G)) h 0 0 50 [some (.inr (some t)), some (.inl x1), some (.inl x2), some (.inl x3), some (.inl x4), some (.inl x5), some (.inl x6), some (.inl x7), some (.inl x8), some (.inl x9), none, none, none] []) (hg60 : ∀ (h : Hs) (x1 : Int32) (x2 : Int32) (x3 : Int32) (x4 : Int32) (x5 : Int32) (x6 : Int32) (x7 : Int32) (x8 : Int32) (x9 : Int32) (x10 : Int32), g60 h x1 x2 x3 x4 x5 x6 x7 x8 x9 x10 = some r → V p l e rmX12_menFor s m args below meth c G 13 (MQ below (QcG G (some (.inl r.1)) r.2) args s rmX12_menFor.cells rmX12_menFor.slots (AG G)) h 0 0 60 [some (.inr (some t)), some (.inl x1), some (.inl x2), some (.inl x3), some (.inl x4), some (.inl x5), some (.inl x6), some (.inl x7), some (.inl x8), some (.inl x9), some (.inl x10), none, none] []) : ∀ (n : Nat) (h : Hs) (x1 : Int32) (x2 : Int32) (x3 : Int32) (x4 : Int32) (x5 : Int32) (x6 : Int32) (x7 : Int32) (x8 : Int32) (x9 : Int32) (x10 : Int32) (x11 : Int32), fX12_menFor_b70 N g3 g12 g21 g50 g60 t n h x1 x2 x3 x4 x5 x6 x7 x8 x9 x10 x11 = some r → V p l e rmX12_menFor s m args below meth c G 13 (MQ below (QcG G (some (.inl r.1)) r.2) args s rmX12_menFor.cells rmX12_menFor.slots (AG G)) h 0 0 70 [some (.inr (some t)), some (.inl x1), some (.inl x2), some (.inl x3), some (.inl x4), some (.inl x5), some (.inl x6), some (.inl x7), some (.inl x8), some (.inl x9), some (.inl x10), some (.inl x11), none] [] := by
  intro n
  induction n with
  | zero => intro h x1 x2 x3 x4 x5 x6 x7 x8 x9 x10 x11 hf; exact absurd (show (none : Option (Int32 × Hs)) = some r from hf) (fun q => by cases q)
  | succ n ih => intro h x1 x2 x3 x4 x5 x6 x7 x8 x9 x10 x11 hf; exact wX12_menFor_b70_body C hret hg3 hg12 hg21 hg50 hg60 ih (show fX12_menFor_b70_body N g3 g12 g21 g50 g60 (fX12_menFor_b70 N g3 g12 g21 g50 g60 t n) t h x1 x2 x3 x4 x5 x6 x7 x8 x9 x10 x11 = some r from hf)
noncomputable def fX12_menFor_b60_body (N : Nat) (g3 : Hs → Int32 → Int32 → Int32 → Int32 → Int32 → Option (Int32 × Hs)) (g12 : Hs → Int32 → Int32 → Int32 → Int32 → Int32 → Int32 → Option (Int32 × Hs)) (g21 : Hs → Int32 → Int32 → Int32 → Int32 → Int32 → Int32 → Int32 → Option (Int32 × Hs)) (g50 : Hs → Int32 → Int32 → Int32 → Int32 → Int32 → Int32 → Int32 → Int32 → Int32 → Option (Int32 × Hs)) (g60 : Hs → Int32 → Int32 → Int32 → Int32 → Int32 → Int32 → Int32 → Int32 → Int32 → Int32 → Option (Int32 × Hs)) (t : Nat) (h : Hs) (x1 : Int32) (x2 : Int32) (x3 : Int32) (x4 : Int32) (x5 : Int32) (x6 : Int32) (x7 : Int32) (x8 : Int32) (x9 : Int32) (x10 : Int32) : Option (Int32 × Hs) :=
  if x6 < x10 then (
  (some (x9 + 1)).bind fun y1 =>
  g50 h x1 x2 x3 x4 x5 x6 x7 x8 y1)
  else fX12_menFor_b70 N g3 g12 g21 g50 g60 t N h x1 x2 x3 x4 x5 x6 x7 x8 x9 x10 0
noncomputable def fX12_menFor_b60 (N : Nat) (g3 : Hs → Int32 → Int32 → Int32 → Int32 → Int32 → Option (Int32 × Hs)) (g12 : Hs → Int32 → Int32 → Int32 → Int32 → Int32 → Int32 → Option (Int32 × Hs)) (g21 : Hs → Int32 → Int32 → Int32 → Int32 → Int32 → Int32 → Int32 → Option (Int32 × Hs)) (g50 : Hs → Int32 → Int32 → Int32 → Int32 → Int32 → Int32 → Int32 → Int32 → Int32 → Option (Int32 × Hs)) (t : Nat) (n : Nat) : Hs → Int32 → Int32 → Int32 → Int32 → Int32 → Int32 → Int32 → Int32 → Int32 → Int32 → Option (Int32 × Hs) := lp (fun _ _ _ _ _ _ _ _ _ _ _ => none) (fun g h x1 x2 x3 x4 x5 x6 x7 x8 x9 x10 => fX12_menFor_b60_body N g3 g12 g21 g50 g t h x1 x2 x3 x4 x5 x6 x7 x8 x9 x10) n
set_option maxHeartbeats 4000000 in
set_option maxRecDepth 20000 in
theorem wX12_menFor_b60_body {p : Program} {l : Launch} {e : Env} {s : State} {m : MethodId} {args : Array Value} {below : List Frame} {meth : Method} {c : Code} {G : Gl} {N : Nat} {h : Hs} {r : Int32 × Hs} {g3 : Hs → Int32 → Int32 → Int32 → Int32 → Int32 → Option (Int32 × Hs)} {g12 : Hs → Int32 → Int32 → Int32 → Int32 → Int32 → Int32 → Option (Int32 × Hs)} {g21 : Hs → Int32 → Int32 → Int32 → Int32 → Int32 → Int32 → Int32 → Option (Int32 × Hs)} {g50 : Hs → Int32 → Int32 → Int32 → Int32 → Int32 → Int32 → Int32 → Int32 → Int32 → Option (Int32 × Hs)} {g60 : Hs → Int32 → Int32 → Int32 → Int32 → Int32 → Int32 → Int32 → Int32 → Int32 → Int32 → Option (Int32 × Hs)} {t : Nat} {x1 : Int32} {x2 : Int32} {x3 : Int32} {x4 : Int32} {x5 : Int32} {x6 : Int32} {x7 : Int32} {x8 : Int32} {x9 : Int32} {x10 : Int32} (C : Cx p s m args meth c cX12_menFor RX12 13 G) (hret : meth.sig.returnType = (some .int)) (hg3 : ∀ (h : Hs) (x1 : Int32) (x2 : Int32) (x3 : Int32) (x4 : Int32) (x5 : Int32), g3 h x1 x2 x3 x4 x5 = some r → V p l e rmX12_menFor s m args below meth c G 13 (MQ below (QcG G (some (.inl r.1)) r.2) args s rmX12_menFor.cells rmX12_menFor.slots (AG G)) h 0 0 3 [some (.inr (some t)), some (.inl x1), some (.inl x2), some (.inl x3), some (.inl x4), some (.inl x5), none, none, none, none, none, none, none] []) (hg12 : ∀ (h : Hs) (x1 : Int32) (x2 : Int32) (x3 : Int32) (x4 : Int32) (x5 : Int32) (x6 : Int32), g12 h x1 x2 x3 x4 x5 x6 = some r → V p l e rmX12_menFor s m args below meth c G 13 (MQ below (QcG G (some (.inl r.1)) r.2) args s rmX12_menFor.cells rmX12_menFor.slots (AG G)) h 0 0 12 [some (.inr (some t)), some (.inl x1), some (.inl x2), some (.inl x3), some (.inl x4), some (.inl x5), some (.inl x6), none, none, none, none, none, none] []) (hg21 : ∀ (h : Hs) (x1 : Int32) (x2 : Int32) (x3 : Int32) (x4 : Int32) (x5 : Int32) (x6 : Int32) (x7 : Int32), g21 h x1 x2 x3 x4 x5 x6 x7 = some r → V p l e rmX12_menFor s m args below meth c G 13 (MQ below (QcG G (some (.inl r.1)) r.2) args s rmX12_menFor.cells rmX12_menFor.slots (AG G)) h 0 0 21 [some (.inr (some t)), some (.inl x1), some (.inl x2), some (.inl x3), some (.inl x4), some (.inl x5), some (.inl x6), some (.inl x7), none, none, none, none, none] []) (hg50 : ∀ (h : Hs) (x1 : Int32) (x2 : Int32) (x3 : Int32) (x4 : Int32) (x5 : Int32) (x6 : Int32) (x7 : Int32) (x8 : Int32) (x9 : Int32), g50 h x1 x2 x3 x4 x5 x6 x7 x8 x9 = some r → V p l e rmX12_menFor s m args below meth c G 13 (MQ below (QcG G (some (.inl r.1)) r.2) args s rmX12_menFor.cells rmX12_menFor.slots (AG G)) h 0 0 50 [some (.inr (some t)), some (.inl x1), some (.inl x2), some (.inl x3), some (.inl x4), some (.inl x5), some (.inl x6), some (.inl x7), some (.inl x8), some (.inl x9), none, none, none] []) (hg60 : ∀ (h : Hs) (x1 : Int32) (x2 : Int32) (x3 : Int32) (x4 : Int32) (x5 : Int32) (x6 : Int32) (x7 : Int32) (x8 : Int32) (x9 : Int32) (x10 : Int32), g60 h x1 x2 x3 x4 x5 x6 x7 x8 x9 x10 = some r → V p l e rmX12_menFor s m args below meth c G 13 (MQ below (QcG G (some (.inl r.1)) r.2) args s rmX12_menFor.cells rmX12_menFor.slots (AG G)) h 0 0 60 [some (.inr (some t)), some (.inl x1), some (.inl x2), some (.inl x3), some (.inl x4), some (.inl x5), some (.inl x6), some (.inl x7), some (.inl x8), some (.inl x9), some (.inl x10), none, none] []) (hf : fX12_menFor_b60_body N g3 g12 g21 g50 g60 t h x1 x2 x3 x4 x5 x6 x7 x8 x9 x10 = some r) : V p l e rmX12_menFor s m args below meth c G 13 (MQ below (QcG G (some (.inl r.1)) r.2) args s rmX12_menFor.cells rmX12_menFor.slots (AG G)) h 0 0 60 [some (.inr (some t)), some (.inl x1), some (.inl x2), some (.inl x3), some (.inl x4), some (.inl x5), some (.inl x6), some (.inl x7), some (.inl x8), some (.inl x9), some (.inl x10), none, none] [] := by
  unfold fX12_menFor_b60_body at hf
  refine r_iload C dX12_menFor_60 rfl ?_
  refine r_iload C dX12_menFor_62 rfl ?_
  refine r_icmp_gt (tgt := 171) C dX12_menFor_64 (by decide) (fun hc => ?_) (fun hc => ?_)
  · have hf := ifT hf hc
    obtain ⟨y1, ey1, hf⟩ := bS hf
    refine r_iincE (v := 1) C dX12_menFor_171 rfl (by decide) (by decide) ey1 ?_
    refine r_goto (tgt := 50) C dX12_menFor_174 (by decide) ?_
    exact V.sub (hg50 _ _ _ _ _ _ _ _ _ _ hf) (LW_s rfl (LW_s rfl (LW_s rfl (LW_s rfl (LW_s rfl (LW_s rfl (LW_s rfl (LW_s rfl (LW_s rfl (LW_s rfl (LW_n (LW_n (LW_n (LW_e))))))))))))))
  · have hf := ifF hf hc
    refine r_iconst (v := 0) C dX12_menFor_67 (by decide) ?_
    refine r_istore C dX12_menFor_68 (by decide) ?_
    exact V.sub (wX12_menFor_b70 C hret hg3 hg12 hg21 hg50 hg60 N _ _ _ _ _ _ _ _ _ _ _ _ hf) (LW_s rfl (LW_s rfl (LW_s rfl (LW_s rfl (LW_s rfl (LW_s rfl (LW_s rfl (LW_s rfl (LW_s rfl (LW_s rfl (LW_s rfl (LW_s rfl (LW_n (LW_e))))))))))))))
theorem wX12_menFor_b60 {p : Program} {l : Launch} {e : Env} {s : State} {m : MethodId} {args : Array Value} {below : List Frame} {meth : Method} {c : Code} {G : Gl} {N : Nat} {r : Int32 × Hs} {g3 : Hs → Int32 → Int32 → Int32 → Int32 → Int32 → Option (Int32 × Hs)} {g12 : Hs → Int32 → Int32 → Int32 → Int32 → Int32 → Int32 → Option (Int32 × Hs)} {g21 : Hs → Int32 → Int32 → Int32 → Int32 → Int32 → Int32 → Int32 → Option (Int32 × Hs)} {g50 : Hs → Int32 → Int32 → Int32 → Int32 → Int32 → Int32 → Int32 → Int32 → Int32 → Option (Int32 × Hs)} {t : Nat} (C : Cx p s m args meth c cX12_menFor RX12 13 G) (hret : meth.sig.returnType = (some .int)) (hg3 : ∀ (h : Hs) (x1 : Int32) (x2 : Int32) (x3 : Int32) (x4 : Int32) (x5 : Int32), g3 h x1 x2 x3 x4 x5 = some r → V p l e rmX12_menFor s m args below meth c G 13 (MQ below (QcG G (some (.inl r.1)) r.2) args s rmX12_menFor.cells rmX12_menFor.slots (AG G)) h 0 0 3 [some (.inr (some t)), some (.inl x1), some (.inl x2), some (.inl x3), some (.inl x4), some (.inl x5), none, none, none, none, none, none, none] []) (hg12 : ∀ (h : Hs) (x1 : Int32) (x2 : Int32) (x3 : Int32) (x4 : Int32) (x5 : Int32) (x6 : Int32), g12 h x1 x2 x3 x4 x5 x6 = some r → V p l e rmX12_menFor s m args below meth c G 13 (MQ below (QcG G (some (.inl r.1)) r.2) args s rmX12_menFor.cells rmX12_menFor.slots (AG G)) h 0 0 12 [some (.inr (some t)), some (.inl x1), some (.inl x2), some (.inl x3), some (.inl x4), some (.inl x5), some (.inl x6), none, none, none, none, none, none] []) (hg21 : ∀ (h : Hs) (x1 : Int32) (x2 : Int32) (x3 : Int32) (x4 : Int32) (x5 : Int32) (x6 : Int32) (x7 : Int32), g21 h x1 x2 x3 x4 x5 x6 x7 = some r → V p l e rmX12_menFor s m args below meth c G 13 (MQ below (QcG G (some (.inl r.1)) r.2) args s rmX12_menFor.cells rmX12_menFor.slots (AG G)) h 0 0 21 [some (.inr (some t)), some (.inl x1), some (.inl x2), some (.inl x3), some (.inl x4), some (.inl x5), some (.inl x6), some (.inl x7), none, none, none, none, none] []) (hg50 : ∀ (h : Hs) (x1 : Int32) (x2 : Int32) (x3 : Int32) (x4 : Int32) (x5 : Int32) (x6 : Int32) (x7 : Int32) (x8 : Int32) (x9 : Int32), g50 h x1 x2 x3 x4 x5 x6 x7 x8 x9 = some r → V p l e rmX12_menFor s m args below meth c G 13 (MQ below (QcG G (some (.inl r.1)) r.2) args s rmX12_menFor.cells rmX12_menFor.slots (AG G)) h 0 0 50 [some (.inr (some t)), some (.inl x1), some (.inl x2), some (.inl x3), some (.inl x4), some (.inl x5), some (.inl x6), some (.inl x7), some (.inl x8), some (.inl x9), none, none, none] []) : ∀ (n : Nat) (h : Hs) (x1 : Int32) (x2 : Int32) (x3 : Int32) (x4 : Int32) (x5 : Int32) (x6 : Int32) (x7 : Int32) (x8 : Int32) (x9 : Int32) (x10 : Int32), fX12_menFor_b60 N g3 g12 g21 g50 t n h x1 x2 x3 x4 x5 x6 x7 x8 x9 x10 = some r → V p l e rmX12_menFor s m args below meth c G 13 (MQ below (QcG G (some (.inl r.1)) r.2) args s rmX12_menFor.cells rmX12_menFor.slots (AG G)) h 0 0 60 [some (.inr (some t)), some (.inl x1), some (.inl x2), some (.inl x3), some (.inl x4), some (.inl x5), some (.inl x6), some (.inl x7), some (.inl x8), some (.inl x9), some (.inl x10), none, none] [] := by
  intro n
  induction n with
  | zero => intro h x1 x2 x3 x4 x5 x6 x7 x8 x9 x10 hf; exact absurd (show (none : Option (Int32 × Hs)) = some r from hf) (fun q => by cases q)
  | succ n ih => intro h x1 x2 x3 x4 x5 x6 x7 x8 x9 x10 hf; exact wX12_menFor_b60_body C hret hg3 hg12 hg21 hg50 ih (show fX12_menFor_b60_body N g3 g12 g21 g50 (fX12_menFor_b60 N g3 g12 g21 g50 t n) t h x1 x2 x3 x4 x5 x6 x7 x8 x9 x10 = some r from hf)
noncomputable def fX12_menFor_b50_body (N : Nat) (g3 : Hs → Int32 → Int32 → Int32 → Int32 → Int32 → Option (Int32 × Hs)) (g12 : Hs → Int32 → Int32 → Int32 → Int32 → Int32 → Int32 → Option (Int32 × Hs)) (g21 : Hs → Int32 → Int32 → Int32 → Int32 → Int32 → Int32 → Int32 → Option (Int32 × Hs)) (g50 : Hs → Int32 → Int32 → Int32 → Int32 → Int32 → Int32 → Int32 → Int32 → Int32 → Option (Int32 × Hs)) (t : Nat) (h : Hs) (x1 : Int32) (x2 : Int32) (x3 : Int32) (x4 : Int32) (x5 : Int32) (x6 : Int32) (x7 : Int32) (x8 : Int32) (x9 : Int32) : Option (Int32 × Hs) :=
  if x5 < x9 then (
  (oR 12 35 h (some t)).bind fun o1 =>
  (sA h o1 (((169 * x5) + (13 * x6)) + x7) x8).bind fun h2 =>
  (some (x7 + 1)).bind fun y3 =>
  g21 h2 x1 x2 x3 x4 x5 x6 y3)
  else fX12_menFor_b60 N g3 g12 g21 g50 t N h x1 x2 x3 x4 x5 x6 x7 x8 x9 0
noncomputable def fX12_menFor_b50 (N : Nat) (g3 : Hs → Int32 → Int32 → Int32 → Int32 → Int32 → Option (Int32 × Hs)) (g12 : Hs → Int32 → Int32 → Int32 → Int32 → Int32 → Int32 → Option (Int32 × Hs)) (g21 : Hs → Int32 → Int32 → Int32 → Int32 → Int32 → Int32 → Int32 → Option (Int32 × Hs)) (t : Nat) (n : Nat) : Hs → Int32 → Int32 → Int32 → Int32 → Int32 → Int32 → Int32 → Int32 → Int32 → Option (Int32 × Hs) := lp (fun _ _ _ _ _ _ _ _ _ _ => none) (fun g h x1 x2 x3 x4 x5 x6 x7 x8 x9 => fX12_menFor_b50_body N g3 g12 g21 g t h x1 x2 x3 x4 x5 x6 x7 x8 x9) n
set_option maxHeartbeats 4000000 in
set_option maxRecDepth 20000 in
theorem wX12_menFor_b50_body {p : Program} {l : Launch} {e : Env} {s : State} {m : MethodId} {args : Array Value} {below : List Frame} {meth : Method} {c : Code} {G : Gl} {N : Nat} {h : Hs} {r : Int32 × Hs} {g3 : Hs → Int32 → Int32 → Int32 → Int32 → Int32 → Option (Int32 × Hs)} {g12 : Hs → Int32 → Int32 → Int32 → Int32 → Int32 → Int32 → Option (Int32 × Hs)} {g21 : Hs → Int32 → Int32 → Int32 → Int32 → Int32 → Int32 → Int32 → Option (Int32 × Hs)} {g50 : Hs → Int32 → Int32 → Int32 → Int32 → Int32 → Int32 → Int32 → Int32 → Int32 → Option (Int32 × Hs)} {t : Nat} {x1 : Int32} {x2 : Int32} {x3 : Int32} {x4 : Int32} {x5 : Int32} {x6 : Int32} {x7 : Int32} {x8 : Int32} {x9 : Int32} (C : Cx p s m args meth c cX12_menFor RX12 13 G) (hret : meth.sig.returnType = (some .int)) (hg3 : ∀ (h : Hs) (x1 : Int32) (x2 : Int32) (x3 : Int32) (x4 : Int32) (x5 : Int32), g3 h x1 x2 x3 x4 x5 = some r → V p l e rmX12_menFor s m args below meth c G 13 (MQ below (QcG G (some (.inl r.1)) r.2) args s rmX12_menFor.cells rmX12_menFor.slots (AG G)) h 0 0 3 [some (.inr (some t)), some (.inl x1), some (.inl x2), some (.inl x3), some (.inl x4), some (.inl x5), none, none, none, none, none, none, none] []) (hg12 : ∀ (h : Hs) (x1 : Int32) (x2 : Int32) (x3 : Int32) (x4 : Int32) (x5 : Int32) (x6 : Int32), g12 h x1 x2 x3 x4 x5 x6 = some r → V p l e rmX12_menFor s m args below meth c G 13 (MQ below (QcG G (some (.inl r.1)) r.2) args s rmX12_menFor.cells rmX12_menFor.slots (AG G)) h 0 0 12 [some (.inr (some t)), some (.inl x1), some (.inl x2), some (.inl x3), some (.inl x4), some (.inl x5), some (.inl x6), none, none, none, none, none, none] []) (hg21 : ∀ (h : Hs) (x1 : Int32) (x2 : Int32) (x3 : Int32) (x4 : Int32) (x5 : Int32) (x6 : Int32) (x7 : Int32), g21 h x1 x2 x3 x4 x5 x6 x7 = some r → V p l e rmX12_menFor s m args below meth c G 13 (MQ below (QcG G (some (.inl r.1)) r.2) args s rmX12_menFor.cells rmX12_menFor.slots (AG G)) h 0 0 21 [some (.inr (some t)), some (.inl x1), some (.inl x2), some (.inl x3), some (.inl x4), some (.inl x5), some (.inl x6), some (.inl x7), none, none, none, none, none] []) (hg50 : ∀ (h : Hs) (x1 : Int32) (x2 : Int32) (x3 : Int32) (x4 : Int32) (x5 : Int32) (x6 : Int32) (x7 : Int32) (x8 : Int32) (x9 : Int32), g50 h x1 x2 x3 x4 x5 x6 x7 x8 x9 = some r → V p l e rmX12_menFor s m args below meth c G 13 (MQ below (QcG G (some (.inl r.1)) r.2) args s rmX12_menFor.cells rmX12_menFor.slots (AG G)) h 0 0 50 [some (.inr (some t)), some (.inl x1), some (.inl x2), some (.inl x3), some (.inl x4), some (.inl x5), some (.inl x6), some (.inl x7), some (.inl x8), some (.inl x9), none, none, none] []) (hf : fX12_menFor_b50_body N g3 g12 g21 g50 t h x1 x2 x3 x4 x5 x6 x7 x8 x9 = some r) : V p l e rmX12_menFor s m args below meth c G 13 (MQ below (QcG G (some (.inl r.1)) r.2) args s rmX12_menFor.cells rmX12_menFor.slots (AG G)) h 0 0 50 [some (.inr (some t)), some (.inl x1), some (.inl x2), some (.inl x3), some (.inl x4), some (.inl x5), some (.inl x6), some (.inl x7), some (.inl x8), some (.inl x9), none, none, none] [] := by
  unfold fX12_menFor_b50_body at hf
  refine r_iload C dX12_menFor_50 rfl ?_
  refine r_iload C dX12_menFor_52 rfl ?_
  refine r_icmp_gt (tgt := 177) C dX12_menFor_54 (by decide) (fun hc => ?_) (fun hc => ?_)
  · have hf := ifT hf hc
    refine r_aload_n C dX12_menFor_177 rfl ?_
    obtain ⟨o1, eo1, hf⟩ := bS hf
    refine r_getR C dX12_menFor_178 fl_X12_88 rfl eo1 ?_
    refine r_sipush (v := 169) C dX12_menFor_181 (by decide) ?_
    refine r_iload C dX12_menFor_184 rfl ?_
    refine r_imul C dX12_menFor_186 ?_
    refine r_bipush (v := 13) C dX12_menFor_187 (by decide) ?_
    refine r_iload C dX12_menFor_189 rfl ?_
    refine r_imul C dX12_menFor_191 ?_
    refine r_iadd C dX12_menFor_192 ?_
    refine r_iload C dX12_menFor_193 rfl ?_
    refine r_iadd C dX12_menFor_195 ?_
    refine r_iload C dX12_menFor_196 rfl ?_
    obtain ⟨h2, eh2, hf⟩ := bS hf
    refine r_iast C dX12_menFor_198 eh2 ?_
    obtain ⟨y3, ey3, hf⟩ := bS hf
    refine r_iincE (v := 1) C dX12_menFor_199 rfl (by decide) (by decide) ey3 ?_
    refine r_goto (tgt := 21) C dX12_menFor_202 (by decide) ?_
    exact V.sub (hg21 _ _ _ _ _ _ _ _ hf) (LW_s rfl (LW_s rfl (LW_s rfl (LW_s rfl (LW_s rfl (LW_s rfl (LW_s rfl (LW_s rfl (LW_n (LW_n (LW_n (LW_n (LW_n (LW_e))))))))))))))
  · have hf := ifF hf hc
    refine r_iconst (v := 0) C dX12_menFor_57 (by decide) ?_
    refine r_istore C dX12_menFor_58 (by decide) ?_
    exact V.sub (wX12_menFor_b60 C hret hg3 hg12 hg21 hg50 N _ _ _ _ _ _ _ _ _ _ _ hf) (LW_s rfl (LW_s rfl (LW_s rfl (LW_s rfl (LW_s rfl (LW_s rfl (LW_s rfl (LW_s rfl (LW_s rfl (LW_s rfl (LW_s rfl (LW_n (LW_n (LW_e))))))))))))))
theorem wX12_menFor_b50 {p : Program} {l : Launch} {e : Env} {s : State} {m : MethodId} {args : Array Value} {below : List Frame} {meth : Method} {c : Code} {G : Gl} {N : Nat} {r : Int32 × Hs} {g3 : Hs → Int32 → Int32 → Int32 → Int32 → Int32 → Option (Int32 × Hs)} {g12 : Hs → Int32 → Int32 → Int32 → Int32 → Int32 → Int32 → Option (Int32 × Hs)} {g21 : Hs → Int32 → Int32 → Int32 → Int32 → Int32 → Int32 → Int32 → Option (Int32 × Hs)} {t : Nat} (C : Cx p s m args meth c cX12_menFor RX12 13 G) (hret : meth.sig.returnType = (some .int)) (hg3 : ∀ (h : Hs) (x1 : Int32) (x2 : Int32) (x3 : Int32) (x4 : Int32) (x5 : Int32), g3 h x1 x2 x3 x4 x5 = some r → V p l e rmX12_menFor s m args below meth c G 13 (MQ below (QcG G (some (.inl r.1)) r.2) args s rmX12_menFor.cells rmX12_menFor.slots (AG G)) h 0 0 3 [some (.inr (some t)), some (.inl x1), some (.inl x2), some (.inl x3), some (.inl x4), some (.inl x5), none, none, none, none, none, none, none] []) (hg12 : ∀ (h : Hs) (x1 : Int32) (x2 : Int32) (x3 : Int32) (x4 : Int32) (x5 : Int32) (x6 : Int32), g12 h x1 x2 x3 x4 x5 x6 = some r → V p l e rmX12_menFor s m args below meth c G 13 (MQ below (QcG G (some (.inl r.1)) r.2) args s rmX12_menFor.cells rmX12_menFor.slots (AG G)) h 0 0 12 [some (.inr (some t)), some (.inl x1), some (.inl x2), some (.inl x3), some (.inl x4), some (.inl x5), some (.inl x6), none, none, none, none, none, none] []) (hg21 : ∀ (h : Hs) (x1 : Int32) (x2 : Int32) (x3 : Int32) (x4 : Int32) (x5 : Int32) (x6 : Int32) (x7 : Int32), g21 h x1 x2 x3 x4 x5 x6 x7 = some r → V p l e rmX12_menFor s m args below meth c G 13 (MQ below (QcG G (some (.inl r.1)) r.2) args s rmX12_menFor.cells rmX12_menFor.slots (AG G)) h 0 0 21 [some (.inr (some t)), some (.inl x1), some (.inl x2), some (.inl x3), some (.inl x4), some (.inl x5), some (.inl x6), some (.inl x7), none, none, none, none, none] []) : ∀ (n : Nat) (h : Hs) (x1 : Int32) (x2 : Int32) (x3 : Int32) (x4 : Int32) (x5 : Int32) (x6 : Int32) (x7 : Int32) (x8 : Int32) (x9 : Int32), fX12_menFor_b50 N g3 g12 g21 t n h x1 x2 x3 x4 x5 x6 x7 x8 x9 = some r → V p l e rmX12_menFor s m args below meth c G 13 (MQ below (QcG G (some (.inl r.1)) r.2) args s rmX12_menFor.cells rmX12_menFor.slots (AG G)) h 0 0 50 [some (.inr (some t)), some (.inl x1), some (.inl x2), some (.inl x3), some (.inl x4), some (.inl x5), some (.inl x6), some (.inl x7), some (.inl x8), some (.inl x9), none, none, none] [] := by
  intro n
  induction n with
  | zero => intro h x1 x2 x3 x4 x5 x6 x7 x8 x9 hf; exact absurd (show (none : Option (Int32 × Hs)) = some r from hf) (fun q => by cases q)
  | succ n ih => intro h x1 x2 x3 x4 x5 x6 x7 x8 x9 hf; exact wX12_menFor_b50_body C hret hg3 hg12 hg21 ih (show fX12_menFor_b50_body N g3 g12 g21 (fX12_menFor_b50 N g3 g12 g21 t n) t h x1 x2 x3 x4 x5 x6 x7 x8 x9 = some r from hf)
noncomputable def fX12_menFor_b45 (N : Nat) (g3 : Hs → Int32 → Int32 → Int32 → Int32 → Int32 → Option (Int32 × Hs)) (g12 : Hs → Int32 → Int32 → Int32 → Int32 → Int32 → Int32 → Option (Int32 × Hs)) (g21 : Hs → Int32 → Int32 → Int32 → Int32 → Int32 → Int32 → Int32 → Option (Int32 × Hs)) (t : Nat) (h : Hs) (x1 : Int32) (x2 : Int32) (x3 : Int32) (x4 : Int32) (x5 : Int32) (x6 : Int32) (x7 : Int32) (u0 : Int32) : Option (Int32 × Hs) :=
  fX12_menFor_b50 N g3 g12 g21 t N h x1 x2 x3 x4 x5 x6 x7 u0 0
set_option maxHeartbeats 4000000 in
set_option maxRecDepth 20000 in
theorem wX12_menFor_b45 {p : Program} {l : Launch} {e : Env} {s : State} {m : MethodId} {args : Array Value} {below : List Frame} {meth : Method} {c : Code} {G : Gl} {N : Nat} {h : Hs} {r : Int32 × Hs} {g3 : Hs → Int32 → Int32 → Int32 → Int32 → Int32 → Option (Int32 × Hs)} {g12 : Hs → Int32 → Int32 → Int32 → Int32 → Int32 → Int32 → Option (Int32 × Hs)} {g21 : Hs → Int32 → Int32 → Int32 → Int32 → Int32 → Int32 → Int32 → Option (Int32 × Hs)} {t : Nat} {x1 : Int32} {x2 : Int32} {x3 : Int32} {x4 : Int32} {x5 : Int32} {x6 : Int32} {x7 : Int32} {u0 : Int32} (C : Cx p s m args meth c cX12_menFor RX12 13 G) (hret : meth.sig.returnType = (some .int)) (hg3 : ∀ (h : Hs) (x1 : Int32) (x2 : Int32) (x3 : Int32) (x4 : Int32) (x5 : Int32), g3 h x1 x2 x3 x4 x5 = some r → V p l e rmX12_menFor s m args below meth c G 13 (MQ below (QcG G (some (.inl r.1)) r.2) args s rmX12_menFor.cells rmX12_menFor.slots (AG G)) h 0 0 3 [some (.inr (some t)), some (.inl x1), some (.inl x2), some (.inl x3), some (.inl x4), some (.inl x5), none, none, none, none, none, none, none] []) (hg12 : ∀ (h : Hs) (x1 : Int32) (x2 : Int32) (x3 : Int32) (x4 : Int32) (x5 : Int32) (x6 : Int32), g12 h x1 x2 x3 x4 x5 x6 = some r → V p l e rmX12_menFor s m args below meth c G 13 (MQ below (QcG G (some (.inl r.1)) r.2) args s rmX12_menFor.cells rmX12_menFor.slots (AG G)) h 0 0 12 [some (.inr (some t)), some (.inl x1), some (.inl x2), some (.inl x3), some (.inl x4), some (.inl x5), some (.inl x6), none, none, none, none, none, none] []) (hg21 : ∀ (h : Hs) (x1 : Int32) (x2 : Int32) (x3 : Int32) (x4 : Int32) (x5 : Int32) (x6 : Int32) (x7 : Int32), g21 h x1 x2 x3 x4 x5 x6 x7 = some r → V p l e rmX12_menFor s m args below meth c G 13 (MQ below (QcG G (some (.inl r.1)) r.2) args s rmX12_menFor.cells rmX12_menFor.slots (AG G)) h 0 0 21 [some (.inr (some t)), some (.inl x1), some (.inl x2), some (.inl x3), some (.inl x4), some (.inl x5), some (.inl x6), some (.inl x7), none, none, none, none, none] []) (hf : fX12_menFor_b45 N g3 g12 g21 t h x1 x2 x3 x4 x5 x6 x7 u0 = some r) : V p l e rmX12_menFor s m args below meth c G 13 (MQ below (QcG G (some (.inl r.1)) r.2) args s rmX12_menFor.cells rmX12_menFor.slots (AG G)) h 0 0 45 [some (.inr (some t)), some (.inl x1), some (.inl x2), some (.inl x3), some (.inl x4), some (.inl x5), some (.inl x6), some (.inl x7), none, none, none, none, none] [.inl u0] := by
  unfold fX12_menFor_b45 at hf
  refine r_istore C dX12_menFor_45 (by decide) ?_
  refine r_iconst (v := 0) C dX12_menFor_47 (by decide) ?_
  refine r_istore C dX12_menFor_48 (by decide) ?_
  exact V.sub (wX12_menFor_b50 C hret hg3 hg12 hg21 N _ _ _ _ _ _ _ _ _ _ hf) (LW_s rfl (LW_s rfl (LW_s rfl (LW_s rfl (LW_s rfl (LW_s rfl (LW_s rfl (LW_s rfl (LW_s rfl (LW_s rfl (LW_n (LW_n (LW_n (LW_e))))))))))))))
noncomputable def fX12_menFor_b21_body (N : Nat) (g3 : Hs → Int32 → Int32 → Int32 → Int32 → Int32 → Option (Int32 × Hs)) (g12 : Hs → Int32 → Int32 → Int32 → Int32 → Int32 → Int32 → Option (Int32 × Hs)) (g21 : Hs → Int32 → Int32 → Int32 → Int32 → Int32 → Int32 → Int32 → Option (Int32 × Hs)) (t : Nat) (h : Hs) (x1 : Int32) (x2 : Int32) (x3 : Int32) (x4 : Int32) (x5 : Int32) (x6 : Int32) (x7 : Int32) : Option (Int32 × Hs) :=
  if x3 < x7 then (
  (some (x6 + 1)).bind fun y1 =>
  g12 h x1 x2 x3 x4 x5 y1)
  else if ((x5 + x6) + x7) = 0 then (
  fX12_menFor_b45 N g3 g12 g21 t h x1 x2 x3 x4 x5 x6 x7 0)
  else fX12_menFor_b45 N g3 g12 g21 t h x1 x2 x3 x4 x5 x6 x7 1000
noncomputable def fX12_menFor_b21 (N : Nat) (g3 : Hs → Int32 → Int32 → Int32 → Int32 → Int32 → Option (Int32 × Hs)) (g12 : Hs → Int32 → Int32 → Int32 → Int32 → Int32 → Int32 → Option (Int32 × Hs)) (t : Nat) (n : Nat) : Hs → Int32 → Int32 → Int32 → Int32 → Int32 → Int32 → Int32 → Option (Int32 × Hs) := lp (fun _ _ _ _ _ _ _ _ => none) (fun g h x1 x2 x3 x4 x5 x6 x7 => fX12_menFor_b21_body N g3 g12 g t h x1 x2 x3 x4 x5 x6 x7) n
set_option maxHeartbeats 4000000 in
set_option maxRecDepth 20000 in
theorem wX12_menFor_b21_body {p : Program} {l : Launch} {e : Env} {s : State} {m : MethodId} {args : Array Value} {below : List Frame} {meth : Method} {c : Code} {G : Gl} {N : Nat} {h : Hs} {r : Int32 × Hs} {g3 : Hs → Int32 → Int32 → Int32 → Int32 → Int32 → Option (Int32 × Hs)} {g12 : Hs → Int32 → Int32 → Int32 → Int32 → Int32 → Int32 → Option (Int32 × Hs)} {g21 : Hs → Int32 → Int32 → Int32 → Int32 → Int32 → Int32 → Int32 → Option (Int32 × Hs)} {t : Nat} {x1 : Int32} {x2 : Int32} {x3 : Int32} {x4 : Int32} {x5 : Int32} {x6 : Int32} {x7 : Int32} (C : Cx p s m args meth c cX12_menFor RX12 13 G) (hret : meth.sig.returnType = (some .int)) (hg3 : ∀ (h : Hs) (x1 : Int32) (x2 : Int32) (x3 : Int32) (x4 : Int32) (x5 : Int32), g3 h x1 x2 x3 x4 x5 = some r → V p l e rmX12_menFor s m args below meth c G 13 (MQ below (QcG G (some (.inl r.1)) r.2) args s rmX12_menFor.cells rmX12_menFor.slots (AG G)) h 0 0 3 [some (.inr (some t)), some (.inl x1), some (.inl x2), some (.inl x3), some (.inl x4), some (.inl x5), none, none, none, none, none, none, none] []) (hg12 : ∀ (h : Hs) (x1 : Int32) (x2 : Int32) (x3 : Int32) (x4 : Int32) (x5 : Int32) (x6 : Int32), g12 h x1 x2 x3 x4 x5 x6 = some r → V p l e rmX12_menFor s m args below meth c G 13 (MQ below (QcG G (some (.inl r.1)) r.2) args s rmX12_menFor.cells rmX12_menFor.slots (AG G)) h 0 0 12 [some (.inr (some t)), some (.inl x1), some (.inl x2), some (.inl x3), some (.inl x4), some (.inl x5), some (.inl x6), none, none, none, none, none, none] []) (hg21 : ∀ (h : Hs) (x1 : Int32) (x2 : Int32) (x3 : Int32) (x4 : Int32) (x5 : Int32) (x6 : Int32) (x7 : Int32), g21 h x1 x2 x3 x4 x5 x6 x7 = some r → V p l e rmX12_menFor s m args below meth c G 13 (MQ below (QcG G (some (.inl r.1)) r.2) args s rmX12_menFor.cells rmX12_menFor.slots (AG G)) h 0 0 21 [some (.inr (some t)), some (.inl x1), some (.inl x2), some (.inl x3), some (.inl x4), some (.inl x5), some (.inl x6), some (.inl x7), none, none, none, none, none] []) (hf : fX12_menFor_b21_body N g3 g12 g21 t h x1 x2 x3 x4 x5 x6 x7 = some r) : V p l e rmX12_menFor s m args below meth c G 13 (MQ below (QcG G (some (.inl r.1)) r.2) args s rmX12_menFor.cells rmX12_menFor.slots (AG G)) h 0 0 21 [some (.inr (some t)), some (.inl x1), some (.inl x2), some (.inl x3), some (.inl x4), some (.inl x5), some (.inl x6), some (.inl x7), none, none, none, none, none] [] := by
  unfold fX12_menFor_b21_body at hf
  refine r_iload C dX12_menFor_21 rfl ?_
  refine r_iload_n C dX12_menFor_23 rfl ?_
  refine r_icmp_gt (tgt := 205) C dX12_menFor_24 (by decide) (fun hc => ?_) (fun hc => ?_)
  · have hf := ifT hf hc
    obtain ⟨y1, ey1, hf⟩ := bS hf
    refine r_iincE (v := 1) C dX12_menFor_205 rfl (by decide) (by decide) ey1 ?_
    refine r_goto (tgt := 12) C dX12_menFor_208 (by decide) ?_
    exact V.sub (hg12 _ _ _ _ _ _ _ hf) (LW_s rfl (LW_s rfl (LW_s rfl (LW_s rfl (LW_s rfl (LW_s rfl (LW_s rfl (LW_n (LW_n (LW_n (LW_n (LW_n (LW_n (LW_e))))))))))))))
  · have hf := ifF hf hc
    refine r_iload C dX12_menFor_27 rfl ?_
    refine r_iload C dX12_menFor_29 rfl ?_
    refine r_iadd C dX12_menFor_31 ?_
    refine r_iload C dX12_menFor_32 rfl ?_
    refine r_iadd C dX12_menFor_34 ?_
    refine r_if_ne (tgt := 42) C dX12_menFor_35 (by decide) (fun hc => ?_) (fun hc => ?_)
    · have hf := ifF hf hc
      refine r_sipush (v := 1000) C dX12_menFor_42 (by decide) ?_
      exact V.sub (wX12_menFor_b45 C hret hg3 hg12 hg21 hf) (LW_s rfl (LW_s rfl (LW_s rfl (LW_s rfl (LW_s rfl (LW_s rfl (LW_s rfl (LW_s rfl (LW_n (LW_n (LW_n (LW_n (LW_n (LW_e))))))))))))))
    · have hf := ifT hf hc
      refine r_iconst (v := 0) C dX12_menFor_38 (by decide) ?_
      refine r_goto (tgt := 45) C dX12_menFor_39 (by decide) ?_
      exact V.sub (wX12_menFor_b45 C hret hg3 hg12 hg21 hf) (LW_s rfl (LW_s rfl (LW_s rfl (LW_s rfl (LW_s rfl (LW_s rfl (LW_s rfl (LW_s rfl (LW_n (LW_n (LW_n (LW_n (LW_n (LW_e))))))))))))))
theorem wX12_menFor_b21 {p : Program} {l : Launch} {e : Env} {s : State} {m : MethodId} {args : Array Value} {below : List Frame} {meth : Method} {c : Code} {G : Gl} {N : Nat} {r : Int32 × Hs} {g3 : Hs → Int32 → Int32 → Int32 → Int32 → Int32 → Option (Int32 × Hs)} {g12 : Hs → Int32 → Int32 → Int32 → Int32 → Int32 → Int32 → Option (Int32 × Hs)} {t : Nat} (C : Cx p s m args meth c cX12_menFor RX12 13 G) (hret : meth.sig.returnType = (some .int)) (hg3 : ∀ (h : Hs) (x1 : Int32) (x2 : Int32) (x3 : Int32) (x4 : Int32) (x5 : Int32), g3 h x1 x2 x3 x4 x5 = some r → V p l e rmX12_menFor s m args below meth c G 13 (MQ below (QcG G (some (.inl r.1)) r.2) args s rmX12_menFor.cells rmX12_menFor.slots (AG G)) h 0 0 3 [some (.inr (some t)), some (.inl x1), some (.inl x2), some (.inl x3), some (.inl x4), some (.inl x5), none, none, none, none, none, none, none] []) (hg12 : ∀ (h : Hs) (x1 : Int32) (x2 : Int32) (x3 : Int32) (x4 : Int32) (x5 : Int32) (x6 : Int32), g12 h x1 x2 x3 x4 x5 x6 = some r → V p l e rmX12_menFor s m args below meth c G 13 (MQ below (QcG G (some (.inl r.1)) r.2) args s rmX12_menFor.cells rmX12_menFor.slots (AG G)) h 0 0 12 [some (.inr (some t)), some (.inl x1), some (.inl x2), some (.inl x3), some (.inl x4), some (.inl x5), some (.inl x6), none, none, none, none, none, none] []) : ∀ (n : Nat) (h : Hs) (x1 : Int32) (x2 : Int32) (x3 : Int32) (x4 : Int32) (x5 : Int32) (x6 : Int32) (x7 : Int32), fX12_menFor_b21 N g3 g12 t n h x1 x2 x3 x4 x5 x6 x7 = some r → V p l e rmX12_menFor s m args below meth c G 13 (MQ below (QcG G (some (.inl r.1)) r.2) args s rmX12_menFor.cells rmX12_menFor.slots (AG G)) h 0 0 21 [some (.inr (some t)), some (.inl x1), some (.inl x2), some (.inl x3), some (.inl x4), some (.inl x5), some (.inl x6), some (.inl x7), none, none, none, none, none] [] := by
  intro n
  induction n with
  | zero => intro h x1 x2 x3 x4 x5 x6 x7 hf; exact absurd (show (none : Option (Int32 × Hs)) = some r from hf) (fun q => by cases q)
  | succ n ih => intro h x1 x2 x3 x4 x5 x6 x7 hf; exact wX12_menFor_b21_body C hret hg3 hg12 ih (show fX12_menFor_b21_body N g3 g12 (fX12_menFor_b21 N g3 g12 t n) t h x1 x2 x3 x4 x5 x6 x7 = some r from hf)
noncomputable def fX12_menFor_b12_body (N : Nat) (g3 : Hs → Int32 → Int32 → Int32 → Int32 → Int32 → Option (Int32 × Hs)) (g12 : Hs → Int32 → Int32 → Int32 → Int32 → Int32 → Int32 → Option (Int32 × Hs)) (t : Nat) (h : Hs) (x1 : Int32) (x2 : Int32) (x3 : Int32) (x4 : Int32) (x5 : Int32) (x6 : Int32) : Option (Int32 × Hs) :=
  if x2 < x6 then (
  (some (x5 + 1)).bind fun y1 =>
  g3 h x1 x2 x3 x4 y1)
  else fX12_menFor_b21 N g3 g12 t N h x1 x2 x3 x4 x5 x6 0
noncomputable def fX12_menFor_b12 (N : Nat) (g3 : Hs → Int32 → Int32 → Int32 → Int32 → Int32 → Option (Int32 × Hs)) (t : Nat) (n : Nat) : Hs → Int32 → Int32 → Int32 → Int32 → Int32 → Int32 → Option (Int32 × Hs) := lp (fun _ _ _ _ _ _ _ => none) (fun g h x1 x2 x3 x4 x5 x6 => fX12_menFor_b12_body N g3 g t h x1 x2 x3 x4 x5 x6) n
set_option maxHeartbeats 4000000 in
set_option maxRecDepth 20000 in
theorem wX12_menFor_b12_body {p : Program} {l : Launch} {e : Env} {s : State} {m : MethodId} {args : Array Value} {below : List Frame} {meth : Method} {c : Code} {G : Gl} {N : Nat} {h : Hs} {r : Int32 × Hs} {g3 : Hs → Int32 → Int32 → Int32 → Int32 → Int32 → Option (Int32 × Hs)} {g12 : Hs → Int32 → Int32 → Int32 → Int32 → Int32 → Int32 → Option (Int32 × Hs)} {t : Nat} {x1 : Int32} {x2 : Int32} {x3 : Int32} {x4 : Int32} {x5 : Int32} {x6 : Int32} (C : Cx p s m args meth c cX12_menFor RX12 13 G) (hret : meth.sig.returnType = (some .int)) (hg3 : ∀ (h : Hs) (x1 : Int32) (x2 : Int32) (x3 : Int32) (x4 : Int32) (x5 : Int32), g3 h x1 x2 x3 x4 x5 = some r → V p l e rmX12_menFor s m args below meth c G 13 (MQ below (QcG G (some (.inl r.1)) r.2) args s rmX12_menFor.cells rmX12_menFor.slots (AG G)) h 0 0 3 [some (.inr (some t)), some (.inl x1), some (.inl x2), some (.inl x3), some (.inl x4), some (.inl x5), none, none, none, none, none, none, none] []) (hg12 : ∀ (h : Hs) (x1 : Int32) (x2 : Int32) (x3 : Int32) (x4 : Int32) (x5 : Int32) (x6 : Int32), g12 h x1 x2 x3 x4 x5 x6 = some r → V p l e rmX12_menFor s m args below meth c G 13 (MQ below (QcG G (some (.inl r.1)) r.2) args s rmX12_menFor.cells rmX12_menFor.slots (AG G)) h 0 0 12 [some (.inr (some t)), some (.inl x1), some (.inl x2), some (.inl x3), some (.inl x4), some (.inl x5), some (.inl x6), none, none, none, none, none, none] []) (hf : fX12_menFor_b12_body N g3 g12 t h x1 x2 x3 x4 x5 x6 = some r) : V p l e rmX12_menFor s m args below meth c G 13 (MQ below (QcG G (some (.inl r.1)) r.2) args s rmX12_menFor.cells rmX12_menFor.slots (AG G)) h 0 0 12 [some (.inr (some t)), some (.inl x1), some (.inl x2), some (.inl x3), some (.inl x4), some (.inl x5), some (.inl x6), none, none, none, none, none, none] [] := by
  unfold fX12_menFor_b12_body at hf
  refine r_iload C dX12_menFor_12 rfl ?_
  refine r_iload_n C dX12_menFor_14 rfl ?_
  refine r_icmp_gt (tgt := 211) C dX12_menFor_15 (by decide) (fun hc => ?_) (fun hc => ?_)
  · have hf := ifT hf hc
    obtain ⟨y1, ey1, hf⟩ := bS hf
    refine r_iincE (v := 1) C dX12_menFor_211 rfl (by decide) (by decide) ey1 ?_
    refine r_goto (tgt := 3) C dX12_menFor_214 (by decide) ?_
    exact V.sub (hg3 _ _ _ _ _ _ hf) (LW_s rfl (LW_s rfl (LW_s rfl (LW_s rfl (LW_s rfl (LW_s rfl (LW_n (LW_n (LW_n (LW_n (LW_n (LW_n (LW_n (LW_e))))))))))))))
  · have hf := ifF hf hc
    refine r_iconst (v := 0) C dX12_menFor_18 (by decide) ?_
    refine r_istore C dX12_menFor_19 (by decide) ?_
    exact V.sub (wX12_menFor_b21 C hret hg3 hg12 N _ _ _ _ _ _ _ _ hf) (LW_s rfl (LW_s rfl (LW_s rfl (LW_s rfl (LW_s rfl (LW_s rfl (LW_s rfl (LW_s rfl (LW_n (LW_n (LW_n (LW_n (LW_n (LW_e))))))))))))))
theorem wX12_menFor_b12 {p : Program} {l : Launch} {e : Env} {s : State} {m : MethodId} {args : Array Value} {below : List Frame} {meth : Method} {c : Code} {G : Gl} {N : Nat} {r : Int32 × Hs} {g3 : Hs → Int32 → Int32 → Int32 → Int32 → Int32 → Option (Int32 × Hs)} {t : Nat} (C : Cx p s m args meth c cX12_menFor RX12 13 G) (hret : meth.sig.returnType = (some .int)) (hg3 : ∀ (h : Hs) (x1 : Int32) (x2 : Int32) (x3 : Int32) (x4 : Int32) (x5 : Int32), g3 h x1 x2 x3 x4 x5 = some r → V p l e rmX12_menFor s m args below meth c G 13 (MQ below (QcG G (some (.inl r.1)) r.2) args s rmX12_menFor.cells rmX12_menFor.slots (AG G)) h 0 0 3 [some (.inr (some t)), some (.inl x1), some (.inl x2), some (.inl x3), some (.inl x4), some (.inl x5), none, none, none, none, none, none, none] []) : ∀ (n : Nat) (h : Hs) (x1 : Int32) (x2 : Int32) (x3 : Int32) (x4 : Int32) (x5 : Int32) (x6 : Int32), fX12_menFor_b12 N g3 t n h x1 x2 x3 x4 x5 x6 = some r → V p l e rmX12_menFor s m args below meth c G 13 (MQ below (QcG G (some (.inl r.1)) r.2) args s rmX12_menFor.cells rmX12_menFor.slots (AG G)) h 0 0 12 [some (.inr (some t)), some (.inl x1), some (.inl x2), some (.inl x3), some (.inl x4), some (.inl x5), some (.inl x6), none, none, none, none, none, none] [] := by
  intro n
  induction n with
  | zero => intro h x1 x2 x3 x4 x5 x6 hf; exact absurd (show (none : Option (Int32 × Hs)) = some r from hf) (fun q => by cases q)
  | succ n ih => intro h x1 x2 x3 x4 x5 x6 hf; exact wX12_menFor_b12_body C hret hg3 ih (show fX12_menFor_b12_body N g3 (fX12_menFor_b12 N g3 t n) t h x1 x2 x3 x4 x5 x6 = some r from hf)
noncomputable def fX12_menFor_b3_body (N : Nat)  (g3 : Hs → Int32 → Int32 → Int32 → Int32 → Int32 → Option (Int32 × Hs)) (t : Nat) (h : Hs) (x1 : Int32) (x2 : Int32) (x3 : Int32) (x4 : Int32) (x5 : Int32) : Option (Int32 × Hs) :=
  if x1 < x5 then (
  (oR 12 35 h (some t)).bind fun o1 =>
  (lA 20 h o1 (((169 * x1) + (13 * x2)) + x3)).bind fun v2 =>
  some (v2, h))
  else fX12_menFor_b12 N g3 t N h x1 x2 x3 x4 x5 0
noncomputable def fX12_menFor_b3 (N : Nat)  (t : Nat) (n : Nat) : Hs → Int32 → Int32 → Int32 → Int32 → Int32 → Option (Int32 × Hs) := lp (fun _ _ _ _ _ _ => none) (fun g h x1 x2 x3 x4 x5 => fX12_menFor_b3_body N  g t h x1 x2 x3 x4 x5) n
set_option maxHeartbeats 4000000 in
set_option maxRecDepth 20000 in
theorem wX12_menFor_b3_body {p : Program} {l : Launch} {e : Env} {s : State} {m : MethodId} {args : Array Value} {below : List Frame} {meth : Method} {c : Code} {G : Gl} {N : Nat} {h : Hs} {r : Int32 × Hs}  {g3 : Hs → Int32 → Int32 → Int32 → Int32 → Int32 → Option (Int32 × Hs)} {t : Nat} {x1 : Int32} {x2 : Int32} {x3 : Int32} {x4 : Int32} {x5 : Int32} (C : Cx p s m args meth c cX12_menFor RX12 13 G) (hret : meth.sig.returnType = (some .int))  (hg3 : ∀ (h : Hs) (x1 : Int32) (x2 : Int32) (x3 : Int32) (x4 : Int32) (x5 : Int32), g3 h x1 x2 x3 x4 x5 = some r → V p l e rmX12_menFor s m args below meth c G 13 (MQ below (QcG G (some (.inl r.1)) r.2) args s rmX12_menFor.cells rmX12_menFor.slots (AG G)) h 0 0 3 [some (.inr (some t)), some (.inl x1), some (.inl x2), some (.inl x3), some (.inl x4), some (.inl x5), none, none, none, none, none, none, none] []) (hf : fX12_menFor_b3_body N  g3 t h x1 x2 x3 x4 x5 = some r) : V p l e rmX12_menFor s m args below meth c G 13 (MQ below (QcG G (some (.inl r.1)) r.2) args s rmX12_menFor.cells rmX12_menFor.slots (AG G)) h 0 0 3 [some (.inr (some t)), some (.inl x1), some (.inl x2), some (.inl x3), some (.inl x4), some (.inl x5), none, none, none, none, none, none, none] [] := by
  unfold fX12_menFor_b3_body at hf
  refine r_iload C dX12_menFor_3 rfl ?_
  refine r_iload_n C dX12_menFor_5 rfl ?_
  refine r_icmp_gt (tgt := 217) C dX12_menFor_6 (by decide) (fun hc => ?_) (fun hc => ?_)
  · have hf := ifT hf hc
    refine r_aload_n C dX12_menFor_217 rfl ?_
    obtain ⟨o1, eo1, hf⟩ := bS hf
    refine r_getR C dX12_menFor_218 fl_X12_88 rfl eo1 ?_
    refine r_sipush (v := 169) C dX12_menFor_221 (by decide) ?_
    refine r_iload_n C dX12_menFor_224 rfl ?_
    refine r_imul C dX12_menFor_225 ?_
    refine r_bipush (v := 13) C dX12_menFor_226 (by decide) ?_
    refine r_iload_n C dX12_menFor_228 rfl ?_
    refine r_imul C dX12_menFor_229 ?_
    refine r_iadd C dX12_menFor_230 ?_
    refine r_iload_n C dX12_menFor_231 rfl ?_
    refine r_iadd C dX12_menFor_232 ?_
    obtain ⟨v2, ev2, hf⟩ := bS hf
    refine r_iald C dX12_menFor_233 ev2 ?_
    exact r_iretF C dX12_menFor_234 hret hf (by decide) (by decide)
  · have hf := ifF hf hc
    refine r_iconst (v := 0) C dX12_menFor_9 (by decide) ?_
    refine r_istore C dX12_menFor_10 (by decide) ?_
    exact V.sub (wX12_menFor_b12 C hret hg3 N _ _ _ _ _ _ _ hf) (LW_s rfl (LW_s rfl (LW_s rfl (LW_s rfl (LW_s rfl (LW_s rfl (LW_s rfl (LW_n (LW_n (LW_n (LW_n (LW_n (LW_n (LW_e))))))))))))))
theorem wX12_menFor_b3 {p : Program} {l : Launch} {e : Env} {s : State} {m : MethodId} {args : Array Value} {below : List Frame} {meth : Method} {c : Code} {G : Gl} {N : Nat} {r : Int32 × Hs}  {t : Nat} (C : Cx p s m args meth c cX12_menFor RX12 13 G) (hret : meth.sig.returnType = (some .int))  : ∀ (n : Nat) (h : Hs) (x1 : Int32) (x2 : Int32) (x3 : Int32) (x4 : Int32) (x5 : Int32), fX12_menFor_b3 N  t n h x1 x2 x3 x4 x5 = some r → V p l e rmX12_menFor s m args below meth c G 13 (MQ below (QcG G (some (.inl r.1)) r.2) args s rmX12_menFor.cells rmX12_menFor.slots (AG G)) h 0 0 3 [some (.inr (some t)), some (.inl x1), some (.inl x2), some (.inl x3), some (.inl x4), some (.inl x5), none, none, none, none, none, none, none] [] := by
  intro n
  induction n with
  | zero => intro h x1 x2 x3 x4 x5 hf; exact absurd (show (none : Option (Int32 × Hs)) = some r from hf) (fun q => by cases q)
  | succ n ih => intro h x1 x2 x3 x4 x5 hf; exact wX12_menFor_b3_body C hret  ih (show fX12_menFor_b3_body N  (fX12_menFor_b3 N  t n) t h x1 x2 x3 x4 x5 = some r from hf)
noncomputable def fX12_menFor (N : Nat) (h : Hs) (t : Nat) (p1 : Int32) (p2 : Int32) (p3 : Int32) (p4 : Int32) : Option (Int32 × Hs) :=
  fX12_menFor_b3 N t N h p1 p2 p3 p4 0
set_option maxHeartbeats 4000000 in
set_option maxRecDepth 20000 in
theorem kX12_menFor (l : Launch) (G : Gl) {N : Nat} {h : Hs} {t : Nat} {p1 : Int32} {p2 : Int32} {p3 : Int32} {p4 : Int32} {r : Int32 × Hs} (hf : fX12_menFor N h t p1 p2 p3 p4 = some r) : CT l G yX12_menFor cX12_menFor 13 (some .int) rmX12_menFor [.inr (some t), .inl p1, .inl p2, .inl p3, .inl p4] h (some (.inl r.1)) r.2 := by
  refine mk_CT (by decide) (Nat.le_of_ble_eq_true rfl) ?_
  intro p e s m args below meth c C hret hin
  unfold fX12_menFor at hf
  refine r_iconst (v := 0) C dX12_menFor_0 (by decide) ?_
  refine r_istore C dX12_menFor_1 (by decide) ?_
  exact V.sub (wX12_menFor_b3 C hret N _ _ _ _ _ _ hf) (LW_s rfl (LW_s rfl (LW_s rfl (LW_s rfl (LW_s rfl (LW_s rfl (LW_n (LW_n (LW_n (LW_n (LW_n (LW_n (LW_n (LW_e))))))))))))))

theorem dgX12_men_0 : (decode cX12_men 0 = .ok (.aload_n 0, 1)) ∧ (decode cX12_men 1 = .ok (.getfield 227, 3)) ∧ (decode cX12_men 4 = .ok (.ifCond .eq 13, 3)) ∧ (decode cX12_men 7 = .ok (.iload_n 1, 1)) ∧ (decode cX12_men 8 = .ok (.iconst 1, 1)) ∧ (decode cX12_men 9 = .ok (.bipush 99, 2)) ∧ (decode cX12_men 11 = .ok (.invokestatic 149, 3)) ∧ (decode cX12_men 14 = .ok (.ifCond .ne 5, 3)) ∧ True := dkW [(0, .aload_n 0, 1), (1, .getfield 227, 3), (4, .ifCond .eq 13, 3), (7, .iload_n 1, 1), (8, .iconst 1, 1), (9, .bipush 99, 2), (11, .invokestatic 149, 3), (14, .ifCond .ne 5, 3)] 0 (by decide +kernel)
theorem dX12_men_0 : decode cX12_men 0 = .ok (.aload_n 0, 1) := dgX12_men_0.1
theorem dX12_men_1 : decode cX12_men 1 = .ok (.getfield 227, 3) := dgX12_men_0.2.1
theorem dX12_men_4 : decode cX12_men 4 = .ok (.ifCond .eq 13, 3) := dgX12_men_0.2.2.1
theorem dX12_men_7 : decode cX12_men 7 = .ok (.iload_n 1, 1) := dgX12_men_0.2.2.2.1
theorem dX12_men_8 : decode cX12_men 8 = .ok (.iconst 1, 1) := dgX12_men_0.2.2.2.2.1
theorem dX12_men_9 : decode cX12_men 9 = .ok (.bipush 99, 2) := dgX12_men_0.2.2.2.2.2.1
theorem dX12_men_11 : decode cX12_men 11 = .ok (.invokestatic 149, 3) := dgX12_men_0.2.2.2.2.2.2.1
theorem dX12_men_14 : decode cX12_men 14 = .ok (.ifCond .ne 5, 3) := dgX12_men_0.2.2.2.2.2.2.2.1
theorem dX12_men_17 : decode cX12_men 17 = .ok (.iconst (-1), 1) := by decide +kernel
theorem dgX12_men_18 : (decode cX12_men 18 = .ok (.ireturn, 1)) ∧ (decode cX12_men 19 = .ok (.aload_n 0, 1)) ∧ (decode cX12_men 20 = .ok (.getfield 230, 3)) ∧ (decode cX12_men 23 = .ok (.ifCond .eq 6, 3)) ∧ (decode cX12_men 26 = .ok (.bipush (-2), 2)) ∧ (decode cX12_men 28 = .ok (.ireturn, 1)) ∧ (decode cX12_men 29 = .ok (.iconst 0, 1)) ∧ (decode cX12_men 30 = .ok (.istore_n 2, 1)) ∧ (decode cX12_men 31 = .ok (.iconst 0, 1)) ∧ (decode cX12_men 32 = .ok (.istore_n 3, 1)) ∧ (decode cX12_men 33 = .ok (.iconst 0, 1)) ∧ (decode cX12_men 34 = .ok (.istore 4, 2)) ∧ True := dkW [(18, .ireturn, 1), (19, .aload_n 0, 1), (20, .getfield 230, 3), (23, .ifCond .eq 6, 3), (26, .bipush (-2), 2), (28, .ireturn, 1), (29, .iconst 0, 1), (30, .istore_n 2, 1), (31, .iconst 0, 1), (32, .istore_n 3, 1), (33, .iconst 0, 1), (34, .istore 4, 2)] 18 (by decide +kernel)
theorem dX12_men_18 : decode cX12_men 18 = .ok (.ireturn, 1) := dgX12_men_18.1
theorem dX12_men_19 : decode cX12_men 19 = .ok (.aload_n 0, 1) := dgX12_men_18.2.1
theorem dX12_men_20 : decode cX12_men 20 = .ok (.getfield 230, 3) := dgX12_men_18.2.2.1
theorem dX12_men_23 : decode cX12_men 23 = .ok (.ifCond .eq 6, 3) := dgX12_men_18.2.2.2.1
theorem dX12_men_26 : decode cX12_men 26 = .ok (.bipush (-2), 2) := dgX12_men_18.2.2.2.2.1
theorem dX12_men_28 : decode cX12_men 28 = .ok (.ireturn, 1) := dgX12_men_18.2.2.2.2.2.1
theorem dX12_men_29 : decode cX12_men 29 = .ok (.iconst 0, 1) := dgX12_men_18.2.2.2.2.2.2.1
theorem dX12_men_30 : decode cX12_men 30 = .ok (.istore_n 2, 1) := dgX12_men_18.2.2.2.2.2.2.2.1
theorem dX12_men_31 : decode cX12_men 31 = .ok (.iconst 0, 1) := dgX12_men_18.2.2.2.2.2.2.2.2.1
theorem dX12_men_32 : decode cX12_men 32 = .ok (.istore_n 3, 1) := dgX12_men_18.2.2.2.2.2.2.2.2.2.1
theorem dX12_men_33 : decode cX12_men 33 = .ok (.iconst 0, 1) := dgX12_men_18.2.2.2.2.2.2.2.2.2.2.1
theorem dX12_men_34 : decode cX12_men 34 = .ok (.istore 4, 2) := dgX12_men_18.2.2.2.2.2.2.2.2.2.2.2.1
theorem dgX12_men_36 : (decode cX12_men 36 = .ok (.iconst 0, 1)) ∧ (decode cX12_men 37 = .ok (.istore 5, 2)) ∧ (decode cX12_men 39 = .ok (.iload 5, 2)) ∧ (decode cX12_men 41 = .ok (.aload_n 0, 1)) ∧ (decode cX12_men 42 = .ok (.getfield 233, 3)) ∧ (decode cX12_men 45 = .ok (.if_icmp .ge 68, 3)) ∧ (decode cX12_men 48 = .ok (.iload_n 2, 1)) ∧ (decode cX12_men 49 = .ok (.aload_n 0, 1)) ∧ (decode cX12_men 50 = .ok (.getfield 85, 3)) ∧ (decode cX12_men 53 = .ok (.iload 5, 2)) ∧ (decode cX12_men 55 = .ok (.iaload, 1)) ∧ (decode cX12_men 56 = .ok (.iconst 5, 1)) ∧ True := dkW [(36, .iconst 0, 1), (37, .istore 5, 2), (39, .iload 5, 2), (41, .aload_n 0, 1), (42, .getfield 233, 3), (45, .if_icmp .ge 68, 3), (48, .iload_n 2, 1), (49, .aload_n 0, 1), (50, .getfield 85, 3), (53, .iload 5, 2), (55, .iaload, 1), (56, .iconst 5, 1)] 36 (by decide +kernel)
theorem dX12_men_36 : decode cX12_men 36 = .ok (.iconst 0, 1) := dgX12_men_36.1
theorem dX12_men_37 : decode cX12_men 37 = .ok (.istore 5, 2) := dgX12_men_36.2.1
theorem dX12_men_39 : decode cX12_men 39 = .ok (.iload 5, 2) := dgX12_men_36.2.2.1
theorem dX12_men_41 : decode cX12_men 41 = .ok (.aload_n 0, 1) := dgX12_men_36.2.2.2.1
theorem dX12_men_42 : decode cX12_men 42 = .ok (.getfield 233, 3) := dgX12_men_36.2.2.2.2.1
theorem dX12_men_45 : decode cX12_men 45 = .ok (.if_icmp .ge 68, 3) := dgX12_men_36.2.2.2.2.2.1
theorem dX12_men_48 : decode cX12_men 48 = .ok (.iload_n 2, 1) := dgX12_men_36.2.2.2.2.2.2.1
theorem dX12_men_49 : decode cX12_men 49 = .ok (.aload_n 0, 1) := dgX12_men_36.2.2.2.2.2.2.2.1
theorem dX12_men_50 : decode cX12_men 50 = .ok (.getfield 85, 3) := dgX12_men_36.2.2.2.2.2.2.2.2.1
theorem dX12_men_53 : decode cX12_men 53 = .ok (.iload 5, 2) := dgX12_men_36.2.2.2.2.2.2.2.2.2.1
theorem dX12_men_55 : decode cX12_men 55 = .ok (.iaload, 1) := dgX12_men_36.2.2.2.2.2.2.2.2.2.2.1
theorem dX12_men_56 : decode cX12_men 56 = .ok (.iconst 5, 1) := dgX12_men_36.2.2.2.2.2.2.2.2.2.2.2.1
theorem dgX12_men_57 : (decode cX12_men 57 = .ok (.if_icmp .ne 7, 3)) ∧ (decode cX12_men 60 = .ok (.iconst 1, 1)) ∧ (decode cX12_men 61 = .ok (.goto 4, 3)) ∧ (decode cX12_men 64 = .ok (.iconst 0, 1)) ∧ (decode cX12_men 65 = .ok (.iadd, 1)) ∧ (decode cX12_men 66 = .ok (.istore_n 2, 1)) ∧ (decode cX12_men 67 = .ok (.iload_n 3, 1)) ∧ (decode cX12_men 68 = .ok (.aload_n 0, 1)) ∧ (decode cX12_men 69 = .ok (.getfield 85, 3)) ∧ (decode cX12_men 72 = .ok (.iload 5, 2)) ∧ (decode cX12_men 74 = .ok (.iaload, 1)) ∧ (decode cX12_men 75 = .ok (.iconst 3, 1)) ∧ True := dkW [(57, .if_icmp .ne 7, 3), (60, .iconst 1, 1), (61, .goto 4, 3), (64, .iconst 0, 1), (65, .iadd, 1), (66, .istore_n 2, 1), (67, .iload_n 3, 1), (68, .aload_n 0, 1), (69, .getfield 85, 3), (72, .iload 5, 2), (74, .iaload, 1), (75, .iconst 3, 1)] 57 (by decide +kernel)
theorem dX12_men_57 : decode cX12_men 57 = .ok (.if_icmp .ne 7, 3) := dgX12_men_57.1
theorem dX12_men_60 : decode cX12_men 60 = .ok (.iconst 1, 1) := dgX12_men_57.2.1
theorem dX12_men_61 : decode cX12_men 61 = .ok (.goto 4, 3) := dgX12_men_57.2.2.1
theorem dX12_men_64 : decode cX12_men 64 = .ok (.iconst 0, 1) := dgX12_men_57.2.2.2.1
theorem dX12_men_65 : decode cX12_men 65 = .ok (.iadd, 1) := dgX12_men_57.2.2.2.2.1
theorem dX12_men_66 : decode cX12_men 66 = .ok (.istore_n 2, 1) := dgX12_men_57.2.2.2.2.2.1
theorem dX12_men_67 : decode cX12_men 67 = .ok (.iload_n 3, 1) := dgX12_men_57.2.2.2.2.2.2.1
theorem dX12_men_68 : decode cX12_men 68 = .ok (.aload_n 0, 1) := dgX12_men_57.2.2.2.2.2.2.2.1
theorem dX12_men_69 : decode cX12_men 69 = .ok (.getfield 85, 3) := dgX12_men_57.2.2.2.2.2.2.2.2.1
theorem dX12_men_72 : decode cX12_men 72 = .ok (.iload 5, 2) := dgX12_men_57.2.2.2.2.2.2.2.2.2.1
theorem dX12_men_74 : decode cX12_men 74 = .ok (.iaload, 1) := dgX12_men_57.2.2.2.2.2.2.2.2.2.2.1
theorem dX12_men_75 : decode cX12_men 75 = .ok (.iconst 3, 1) := dgX12_men_57.2.2.2.2.2.2.2.2.2.2.2.1
theorem dgX12_men_76 : (decode cX12_men 76 = .ok (.if_icmp .ne 7, 3)) ∧ (decode cX12_men 79 = .ok (.iconst 1, 1)) ∧ (decode cX12_men 80 = .ok (.goto 4, 3)) ∧ (decode cX12_men 83 = .ok (.iconst 0, 1)) ∧ (decode cX12_men 84 = .ok (.iadd, 1)) ∧ (decode cX12_men 85 = .ok (.istore_n 3, 1)) ∧ (decode cX12_men 86 = .ok (.iload 4, 2)) ∧ (decode cX12_men 88 = .ok (.aload_n 0, 1)) ∧ (decode cX12_men 89 = .ok (.getfield 85, 3)) ∧ (decode cX12_men 92 = .ok (.iload 5, 2)) ∧ (decode cX12_men 94 = .ok (.iaload, 1)) ∧ (decode cX12_men 95 = .ok (.iconst 2, 1)) ∧ True := dkW [(76, .if_icmp .ne 7, 3), (79, .iconst 1, 1), (80, .goto 4, 3), (83, .iconst 0, 1), (84, .iadd, 1), (85, .istore_n 3, 1), (86, .iload 4, 2), (88, .aload_n 0, 1), (89, .getfield 85, 3), (92, .iload 5, 2), (94, .iaload, 1), (95, .iconst 2, 1)] 76 (by decide +kernel)
theorem dX12_men_76 : decode cX12_men 76 = .ok (.if_icmp .ne 7, 3) := dgX12_men_76.1
theorem dX12_men_79 : decode cX12_men 79 = .ok (.iconst 1, 1) := dgX12_men_76.2.1
theorem dX12_men_80 : decode cX12_men 80 = .ok (.goto 4, 3) := dgX12_men_76.2.2.1
theorem dX12_men_83 : decode cX12_men 83 = .ok (.iconst 0, 1) := dgX12_men_76.2.2.2.1
theorem dX12_men_84 : decode cX12_men 84 = .ok (.iadd, 1) := dgX12_men_76.2.2.2.2.1
theorem dX12_men_85 : decode cX12_men 85 = .ok (.istore_n 3, 1) := dgX12_men_76.2.2.2.2.2.1
theorem dX12_men_86 : decode cX12_men 86 = .ok (.iload 4, 2) := dgX12_men_76.2.2.2.2.2.2.1
theorem dX12_men_88 : decode cX12_men 88 = .ok (.aload_n 0, 1) := dgX12_men_76.2.2.2.2.2.2.2.1
theorem dX12_men_89 : decode cX12_men 89 = .ok (.getfield 85, 3) := dgX12_men_76.2.2.2.2.2.2.2.2.1
theorem dX12_men_92 : decode cX12_men 92 = .ok (.iload 5, 2) := dgX12_men_76.2.2.2.2.2.2.2.2.2.1
theorem dX12_men_94 : decode cX12_men 94 = .ok (.iaload, 1) := dgX12_men_76.2.2.2.2.2.2.2.2.2.2.1
theorem dX12_men_95 : decode cX12_men 95 = .ok (.iconst 2, 1) := dgX12_men_76.2.2.2.2.2.2.2.2.2.2.2.1
theorem dgX12_men_96 : (decode cX12_men 96 = .ok (.if_icmp .ne 7, 3)) ∧ (decode cX12_men 99 = .ok (.iconst 1, 1)) ∧ (decode cX12_men 100 = .ok (.goto 4, 3)) ∧ (decode cX12_men 103 = .ok (.iconst 0, 1)) ∧ (decode cX12_men 104 = .ok (.iadd, 1)) ∧ (decode cX12_men 105 = .ok (.istore 4, 2)) ∧ (decode cX12_men 107 = .ok (.iinc 5 1, 3)) ∧ (decode cX12_men 110 = .ok (.goto (-71), 3)) ∧ (decode cX12_men 113 = .ok (.iload_n 2, 1)) ∧ (decode cX12_men 114 = .ok (.iload_n 3, 1)) ∧ (decode cX12_men 115 = .ok (.iadd, 1)) ∧ (decode cX12_men 116 = .ok (.iload 4, 2)) ∧ True := dkW [(96, .if_icmp .ne 7, 3), (99, .iconst 1, 1), (100, .goto 4, 3), (103, .iconst 0, 1), (104, .iadd, 1), (105, .istore 4, 2), (107, .iinc 5 1, 3), (110, .goto (-71), 3), (113, .iload_n 2, 1), (114, .iload_n 3, 1), (115, .iadd, 1), (116, .iload 4, 2)] 96 (by decide +kernel)
theorem dX12_men_96 : decode cX12_men 96 = .ok (.if_icmp .ne 7, 3) := dgX12_men_96.1
theorem dX12_men_99 : decode cX12_men 99 = .ok (.iconst 1, 1) := dgX12_men_96.2.1
theorem dX12_men_100 : decode cX12_men 100 = .ok (.goto 4, 3) := dgX12_men_96.2.2.1
theorem dX12_men_103 : decode cX12_men 103 = .ok (.iconst 0, 1) := dgX12_men_96.2.2.2.1
theorem dX12_men_104 : decode cX12_men 104 = .ok (.iadd, 1) := dgX12_men_96.2.2.2.2.1
theorem dX12_men_105 : decode cX12_men 105 = .ok (.istore 4, 2) := dgX12_men_96.2.2.2.2.2.1
theorem dX12_men_107 : decode cX12_men 107 = .ok (.iinc 5 1, 3) := dgX12_men_96.2.2.2.2.2.2.1
theorem dX12_men_110 : decode cX12_men 110 = .ok (.goto (-71), 3) := dgX12_men_96.2.2.2.2.2.2.2.1
theorem dX12_men_113 : decode cX12_men 113 = .ok (.iload_n 2, 1) := dgX12_men_96.2.2.2.2.2.2.2.2.1
theorem dX12_men_114 : decode cX12_men 114 = .ok (.iload_n 3, 1) := dgX12_men_96.2.2.2.2.2.2.2.2.2.1
theorem dX12_men_115 : decode cX12_men 115 = .ok (.iadd, 1) := dgX12_men_96.2.2.2.2.2.2.2.2.2.2.1
theorem dX12_men_116 : decode cX12_men 116 = .ok (.iload 4, 2) := dgX12_men_96.2.2.2.2.2.2.2.2.2.2.2.1
theorem dgX12_men_118 : (decode cX12_men 118 = .ok (.iadd, 1)) ∧ (decode cX12_men 119 = .ok (.bipush 12, 2)) ∧ (decode cX12_men 121 = .ok (.if_icmp .le 6, 3)) ∧ (decode cX12_men 124 = .ok (.bipush (-4), 2)) ∧ (decode cX12_men 126 = .ok (.ireturn, 1)) ∧ (decode cX12_men 127 = .ok (.aload_n 0, 1)) ∧ (decode cX12_men 128 = .ok (.iload_n 2, 1)) ∧ (decode cX12_men 129 = .ok (.iload_n 3, 1)) ∧ (decode cX12_men 130 = .ok (.iload 4, 2)) ∧ (decode cX12_men 132 = .ok (.iload_n 1, 1)) ∧ (decode cX12_men 133 = .ok (.invokevirtual 242, 3)) ∧ (decode cX12_men 136 = .ok (.istore 5, 2)) ∧ True := dkW [(118, .iadd, 1), (119, .bipush 12, 2), (121, .if_icmp .le 6, 3), (124, .bipush (-4), 2), (126, .ireturn, 1), (127, .aload_n 0, 1), (128, .iload_n 2, 1), (129, .iload_n 3, 1), (130, .iload 4, 2), (132, .iload_n 1, 1), (133, .invokevirtual 242, 3), (136, .istore 5, 2)] 118 (by decide +kernel)
theorem dX12_men_118 : decode cX12_men 118 = .ok (.iadd, 1) := dgX12_men_118.1
theorem dX12_men_119 : decode cX12_men 119 = .ok (.bipush 12, 2) := dgX12_men_118.2.1
theorem dX12_men_121 : decode cX12_men 121 = .ok (.if_icmp .le 6, 3) := dgX12_men_118.2.2.1
theorem dX12_men_124 : decode cX12_men 124 = .ok (.bipush (-4), 2) := dgX12_men_118.2.2.2.1
theorem dX12_men_126 : decode cX12_men 126 = .ok (.ireturn, 1) := dgX12_men_118.2.2.2.2.1
theorem dX12_men_127 : decode cX12_men 127 = .ok (.aload_n 0, 1) := dgX12_men_118.2.2.2.2.2.1
theorem dX12_men_128 : decode cX12_men 128 = .ok (.iload_n 2, 1) := dgX12_men_118.2.2.2.2.2.2.1
theorem dX12_men_129 : decode cX12_men 129 = .ok (.iload_n 3, 1) := dgX12_men_118.2.2.2.2.2.2.2.1
theorem dX12_men_130 : decode cX12_men 130 = .ok (.iload 4, 2) := dgX12_men_118.2.2.2.2.2.2.2.2.1
theorem dX12_men_132 : decode cX12_men 132 = .ok (.iload_n 1, 1) := dgX12_men_118.2.2.2.2.2.2.2.2.2.1
theorem dX12_men_133 : decode cX12_men 133 = .ok (.invokevirtual 242, 3) := dgX12_men_118.2.2.2.2.2.2.2.2.2.2.1
theorem dX12_men_136 : decode cX12_men 136 = .ok (.istore 5, 2) := dgX12_men_118.2.2.2.2.2.2.2.2.2.2.2.1
theorem dgX12_men_138 : (decode cX12_men 138 = .ok (.iload 5, 2)) ∧ (decode cX12_men 140 = .ok (.sipush 1000, 3)) ∧ (decode cX12_men 143 = .ok (.if_icmp .lt 8, 3)) ∧ (decode cX12_men 146 = .ok (.bipush (-2), 2)) ∧ (decode cX12_men 148 = .ok (.goto 5, 3)) ∧ (decode cX12_men 151 = .ok (.iload 5, 2)) ∧ (decode cX12_men 153 = .ok (.ireturn, 1)) ∧ True := dkW [(138, .iload 5, 2), (140, .sipush 1000, 3), (143, .if_icmp .lt 8, 3), (146, .bipush (-2), 2), (148, .goto 5, 3), (151, .iload 5, 2), (153, .ireturn, 1)] 138 (by decide +kernel)
theorem dX12_men_138 : decode cX12_men 138 = .ok (.iload 5, 2) := dgX12_men_138.1
theorem dX12_men_140 : decode cX12_men 140 = .ok (.sipush 1000, 3) := dgX12_men_138.2.1
theorem dX12_men_143 : decode cX12_men 143 = .ok (.if_icmp .lt 8, 3) := dgX12_men_138.2.2.1
theorem dX12_men_146 : decode cX12_men 146 = .ok (.bipush (-2), 2) := dgX12_men_138.2.2.2.1
theorem dX12_men_148 : decode cX12_men 148 = .ok (.goto 5, 3) := dgX12_men_138.2.2.2.2.1
theorem dX12_men_151 : decode cX12_men 151 = .ok (.iload 5, 2) := dgX12_men_138.2.2.2.2.2.1
theorem dX12_men_153 : decode cX12_men 153 = .ok (.ireturn, 1) := dgX12_men_138.2.2.2.2.2.2.1
abbrev rmX12_men : Room := { frames := 1, cells := 0, slots := 0, locals := 32 }
noncomputable def fX12_men_b17 (N : Nat)  (t : Nat) (h : Hs)  : Option (Int32 × Hs) :=
  some ((-1), h)
set_option maxHeartbeats 4000000 in
set_option maxRecDepth 20000 in
theorem wX12_men_b17 {p : Program} {l : Launch} {e : Env} {s : State} {m : MethodId} {args : Array Value} {below : List Frame} {meth : Method} {c : Code} {G : Gl} {N : Nat} {h : Hs} {r : Int32 × Hs}  {t : Nat}  (C : Cx p s m args meth c cX12_men RX12 6 G) (hret : meth.sig.returnType = (some .int))  (hf : fX12_men_b17 N  t h  = some r) : V p l e rmX12_men s m args below meth c G 6 (MQ below (QcG G (some (.inl r.1)) r.2) args s rmX12_men.cells rmX12_men.slots (AG G)) h 0 0 17 [some (.inr (some t)), none, none, none, none, none] [] := by
  unfold fX12_men_b17 at hf
  refine r_iconst (v := -1) C dX12_men_17 (by decide) ?_
  exact r_iretF C dX12_men_18 hret hf (by decide) (by decide)
noncomputable def fX12_men_b153 (N : Nat)  (t : Nat) (h : Hs) (u0 : Int32) : Option (Int32 × Hs) :=
  some (u0, h)
set_option maxHeartbeats 4000000 in
set_option maxRecDepth 20000 in
theorem wX12_men_b153 {p : Program} {l : Launch} {e : Env} {s : State} {m : MethodId} {args : Array Value} {below : List Frame} {meth : Method} {c : Code} {G : Gl} {N : Nat} {h : Hs} {r : Int32 × Hs}  {t : Nat} {u0 : Int32} (C : Cx p s m args meth c cX12_men RX12 6 G) (hret : meth.sig.returnType = (some .int))  (hf : fX12_men_b153 N  t h u0 = some r) : V p l e rmX12_men s m args below meth c G 6 (MQ below (QcG G (some (.inl r.1)) r.2) args s rmX12_men.cells rmX12_men.slots (AG G)) h 0 0 153 [some (.inr (some t)), none, none, none, none, none] [.inl u0] := by
  unfold fX12_men_b153 at hf
  exact r_iretF C dX12_men_153 hret hf (by decide) (by decide)
noncomputable def fX12_men_b104 (N : Nat) (g39 : Hs → Int32 → Int32 → Int32 → Int32 → Int32 → Option (Int32 × Hs)) (t : Nat) (h : Hs) (x1 : Int32) (x2 : Int32) (x3 : Int32) (x5 : Int32) (u0 : Int32) (u1 : Int32) : Option (Int32 × Hs) :=
  (some (u0 + u1)).bind fun y1 =>
  (some (x5 + 1)).bind fun y2 =>
  g39 h x1 x2 x3 y1 y2
set_option maxHeartbeats 4000000 in
set_option maxRecDepth 20000 in
theorem wX12_men_b104 {p : Program} {l : Launch} {e : Env} {s : State} {m : MethodId} {args : Array Value} {below : List Frame} {meth : Method} {c : Code} {G : Gl} {N : Nat} {h : Hs} {r : Int32 × Hs} {g39 : Hs → Int32 → Int32 → Int32 → Int32 → Int32 → Option (Int32 × Hs)} {t : Nat} {x1 : Int32} {x2 : Int32} {x3 : Int32} {x5 : Int32} {u0 : Int32} {u1 : Int32} (C : Cx p s m args meth c cX12_men RX12 6 G) (hret : meth.sig.returnType = (some .int)) (hg39 : ∀ (h : Hs) (x1 : Int32) (x2 : Int32) (x3 : Int32) (x4 : Int32) (x5 : Int32), g39 h x1 x2 x3 x4 x5 = some r → V p l e rmX12_men s m args below meth c G 6 (MQ below (QcG G (some (.inl r.1)) r.2) args s rmX12_men.cells rmX12_men.slots (AG G)) h 0 0 39 [some (.inr (some t)), some (.inl x1), some (.inl x2), some (.inl x3), some (.inl x4), some (.inl x5)] []) (hf : fX12_men_b104 N g39 t h x1 x2 x3 x5 u0 u1 = some r) : V p l e rmX12_men s m args below meth c G 6 (MQ below (QcG G (some (.inl r.1)) r.2) args s rmX12_men.cells rmX12_men.slots (AG G)) h 0 0 104 [some (.inr (some t)), some (.inl x1), some (.inl x2), some (.inl x3), none, some (.inl x5)] [.inl u1, .inl u0] := by
  unfold fX12_men_b104 at hf
  refine r_iadd C dX12_men_104 ?_
  obtain ⟨y1, ey1, hf⟩ := bS hf
  refine r_istoreE C dX12_men_105 (by decide) ey1 ?_
  obtain ⟨y2, ey2, hf⟩ := bS hf
  refine r_iincE (v := 1) C dX12_men_107 rfl (by decide) (by decide) ey2 ?_
  refine r_goto (tgt := 39) C dX12_men_110 (by decide) ?_
  exact V.sub (hg39 _ _ _ _ _ _ hf) (LW_s rfl (LW_s rfl (LW_s rfl (LW_s rfl (LW_s rfl (LW_s rfl (LW_e)))))))
noncomputable def fX12_men_b84 (N : Nat) (g39 : Hs → Int32 → Int32 → Int32 → Int32 → Int32 → Option (Int32 × Hs)) (t : Nat) (h : Hs) (x1 : Int32) (x2 : Int32) (x4 : Int32) (x5 : Int32) (u0 : Int32) (u1 : Int32) : Option (Int32 × Hs) :=
  (some (u0 + u1)).bind fun y1 =>
  (oR 12 33 h (some t)).bind fun o2 =>
  (lA 20 h o2 x5).bind fun v3 =>
  if v3 = 2 then (
  fX12_men_b104 N g39 t h x1 x2 y1 x5 x4 1)
  else fX12_men_b104 N g39 t h x1 x2 y1 x5 x4 0
set_option maxHeartbeats 4000000 in
set_option maxRecDepth 20000 in
theorem wX12_men_b84 {p : Program} {l : Launch} {e : Env} {s : State} {m : MethodId} {args : Array Value} {below : List Frame} {meth : Method} {c : Code} {G : Gl} {N : Nat} {h : Hs} {r : Int32 × Hs} {g39 : Hs → Int32 → Int32 → Int32 → Int32 → Int32 → Option (Int32 × Hs)} {t : Nat} {x1 : Int32} {x2 : Int32} {x4 : Int32} {x5 : Int32} {u0 : Int32} {u1 : Int32} (C : Cx p s m args meth c cX12_men RX12 6 G) (hret : meth.sig.returnType = (some .int)) (hg39 : ∀ (h : Hs) (x1 : Int32) (x2 : Int32) (x3 : Int32) (x4 : Int32) (x5 : Int32), g39 h x1 x2 x3 x4 x5 = some r → V p l e rmX12_men s m args below meth c G 6 (MQ below (QcG G (some (.inl r.1)) r.2) args s rmX12_men.cells rmX12_men.slots (AG G)) h 0 0 39 [some (.inr (some t)), some (.inl x1), some (.inl x2), some (.inl x3), some (.inl x4), some (.inl x5)] []) (hf : fX12_men_b84 N g39 t h x1 x2 x4 x5 u0 u1 = some r) : V p l e rmX12_men s m args below meth c G 6 (MQ below (QcG G (some (.inl r.1)) r.2) args s rmX12_men.cells rmX12_men.slots (AG G)) h 0 0 84 [some (.inr (some t)), some (.inl x1), some (.inl x2), none, some (.inl x4), some (.inl x5)] [.inl u1, .inl u0] := by
  unfold fX12_men_b84 at hf
  refine r_iadd C dX12_men_84 ?_
  obtain ⟨y1, ey1, hf⟩ := bS hf
  refine r_istore_nE C dX12_men_85 (by decide) ey1 ?_
  refine r_iload C dX12_men_86 rfl ?_
  refine r_aload_n C dX12_men_88 rfl ?_
  obtain ⟨o2, eo2, hf⟩ := bS hf
  refine r_getR C dX12_men_89 fl_X12_85 rfl eo2 ?_
  refine r_iload C dX12_men_92 rfl ?_
  obtain ⟨v3, ev3, hf⟩ := bS hf
  refine r_iald C dX12_men_94 ev3 ?_
  refine r_iconst (v := 2) C dX12_men_95 (by decide) ?_
  refine r_icmp_ne (tgt := 103) C dX12_men_96 (by decide) (fun hc => ?_) (fun hc => ?_)
  · have hf := ifF hf hc
    refine r_iconst (v := 0) C dX12_men_103 (by decide) ?_
    exact V.sub (wX12_men_b104 C hret hg39 hf) (LW_s rfl (LW_s rfl (LW_s rfl (LW_s rfl (LW_n (LW_s rfl (LW_e)))))))
  · have hf := ifT hf hc
    refine r_iconst (v := 1) C dX12_men_99 (by decide) ?_
    refine r_goto (tgt := 104) C dX12_men_100 (by decide) ?_
    exact V.sub (wX12_men_b104 C hret hg39 hf) (LW_s rfl (LW_s rfl (LW_s rfl (LW_s rfl (LW_n (LW_s rfl (LW_e)))))))
noncomputable def fX12_men_b65 (N : Nat) (g39 : Hs → Int32 → Int32 → Int32 → Int32 → Int32 → Option (Int32 × Hs)) (t : Nat) (h : Hs) (x1 : Int32) (x3 : Int32) (x4 : Int32) (x5 : Int32) (u0 : Int32) (u1 : Int32) : Option (Int32 × Hs) :=
  (some (u0 + u1)).bind fun y1 =>
  (oR 12 33 h (some t)).bind fun o2 =>
  (lA 20 h o2 x5).bind fun v3 =>
  if v3 = 3 then (
  fX12_men_b84 N g39 t h x1 y1 x4 x5 x3 1)
  else fX12_men_b84 N g39 t h x1 y1 x4 x5 x3 0
set_option maxHeartbeats 4000000 in
set_option maxRecDepth 20000 in
theorem wX12_men_b65 {p : Program} {l : Launch} {e : Env} {s : State} {m : MethodId} {args : Array Value} {below : List Frame} {meth : Method} {c : Code} {G : Gl} {N : Nat} {h : Hs} {r : Int32 × Hs} {g39 : Hs → Int32 → Int32 → Int32 → Int32 → Int32 → Option (Int32 × Hs)} {t : Nat} {x1 : Int32} {x3 : Int32} {x4 : Int32} {x5 : Int32} {u0 : Int32} {u1 : Int32} (C : Cx p s m args meth c cX12_men RX12 6 G) (hret : meth.sig.returnType = (some .int)) (hg39 : ∀ (h : Hs) (x1 : Int32) (x2 : Int32) (x3 : Int32) (x4 : Int32) (x5 : Int32), g39 h x1 x2 x3 x4 x5 = some r → V p l e rmX12_men s m args below meth c G 6 (MQ below (QcG G (some (.inl r.1)) r.2) args s rmX12_men.cells rmX12_men.slots (AG G)) h 0 0 39 [some (.inr (some t)), some (.inl x1), some (.inl x2), some (.inl x3), some (.inl x4), some (.inl x5)] []) (hf : fX12_men_b65 N g39 t h x1 x3 x4 x5 u0 u1 = some r) : V p l e rmX12_men s m args below meth c G 6 (MQ below (QcG G (some (.inl r.1)) r.2) args s rmX12_men.cells rmX12_men.slots (AG G)) h 0 0 65 [some (.inr (some t)), some (.inl x1), none, some (.inl x3), some (.inl x4), some (.inl x5)] [.inl u1, .inl u0] := by
  unfold fX12_men_b65 at hf
  refine r_iadd C dX12_men_65 ?_
  obtain ⟨y1, ey1, hf⟩ := bS hf
  refine r_istore_nE C dX12_men_66 (by decide) ey1 ?_
  refine r_iload_n C dX12_men_67 rfl ?_
  refine r_aload_n C dX12_men_68 rfl ?_
  obtain ⟨o2, eo2, hf⟩ := bS hf
  refine r_getR C dX12_men_69 fl_X12_85 rfl eo2 ?_
  refine r_iload C dX12_men_72 rfl ?_
  obtain ⟨v3, ev3, hf⟩ := bS hf
  refine r_iald C dX12_men_74 ev3 ?_
  refine r_iconst (v := 3) C dX12_men_75 (by decide) ?_
  refine r_icmp_ne (tgt := 83) C dX12_men_76 (by decide) (fun hc => ?_) (fun hc => ?_)
  · have hf := ifF hf hc
    refine r_iconst (v := 0) C dX12_men_83 (by decide) ?_
    exact V.sub (wX12_men_b84 C hret hg39 hf) (LW_s rfl (LW_s rfl (LW_s rfl (LW_n (LW_s rfl (LW_s rfl (LW_e)))))))
  · have hf := ifT hf hc
    refine r_iconst (v := 1) C dX12_men_79 (by decide) ?_
    refine r_goto (tgt := 84) C dX12_men_80 (by decide) ?_
    exact V.sub (wX12_men_b84 C hret hg39 hf) (LW_s rfl (LW_s rfl (LW_s rfl (LW_n (LW_s rfl (LW_s rfl (LW_e)))))))
noncomputable def fX12_men_b39_body (N : Nat)  (g39 : Hs → Int32 → Int32 → Int32 → Int32 → Int32 → Option (Int32 × Hs)) (t : Nat) (h : Hs) (x1 : Int32) (x2 : Int32) (x3 : Int32) (x4 : Int32) (x5 : Int32) : Option (Int32 × Hs) :=
  (oI 12 34 h (some t)).bind fun v1 =>
  if v1 ≤ x5 then (
  if ((x2 + x3) + x4) ≤ 12 then (
  (rc 12 h (some t)).bind fun a3 =>
  (fX12_menFor N h a3 x2 x3 x4 x1).bind fun r2 =>
  if r2.1 < 1000 then (
  fX12_men_b153 N t r2.2 r2.1)
  else fX12_men_b153 N t r2.2 (-2))
  else some ((-4), h))
  else (oR 12 33 h (some t)).bind fun o4 =>
  (lA 20 h o4 x5).bind fun v5 =>
  if v5 = 5 then (
  fX12_men_b65 N g39 t h x1 x3 x4 x5 x2 1)
  else fX12_men_b65 N g39 t h x1 x3 x4 x5 x2 0
noncomputable def fX12_men_b39 (N : Nat)  (t : Nat) (n : Nat) : Hs → Int32 → Int32 → Int32 → Int32 → Int32 → Option (Int32 × Hs) := lp (fun _ _ _ _ _ _ => none) (fun g h x1 x2 x3 x4 x5 => fX12_men_b39_body N  g t h x1 x2 x3 x4 x5) n
set_option maxHeartbeats 4000000 in
set_option maxRecDepth 20000 in
theorem wX12_men_b39_body {p : Program} {l : Launch} {e : Env} {s : State} {m : MethodId} {args : Array Value} {below : List Frame} {meth : Method} {c : Code} {G : Gl} {N : Nat} {h : Hs} {r : Int32 × Hs}  {g39 : Hs → Int32 → Int32 → Int32 → Int32 → Int32 → Option (Int32 × Hs)} {t : Nat} {x1 : Int32} {x2 : Int32} {x3 : Int32} {x4 : Int32} {x5 : Int32} (C : Cx p s m args meth c cX12_men RX12 6 G) (hret : meth.sig.returnType = (some .int))  (hg39 : ∀ (h : Hs) (x1 : Int32) (x2 : Int32) (x3 : Int32) (x4 : Int32) (x5 : Int32), g39 h x1 x2 x3 x4 x5 = some r → V p l e rmX12_men s m args below meth c G 6 (MQ below (QcG G (some (.inl r.1)) r.2) args s rmX12_men.cells rmX12_men.slots (AG G)) h 0 0 39 [some (.inr (some t)), some (.inl x1), some (.inl x2), some (.inl x3), some (.inl x4), some (.inl x5)] []) (hf : fX12_men_b39_body N  g39 t h x1 x2 x3 x4 x5 = some r) : V p l e rmX12_men s m args below meth c G 6 (MQ below (QcG G (some (.inl r.1)) r.2) args s rmX12_men.cells rmX12_men.slots (AG G)) h 0 0 39 [some (.inr (some t)), some (.inl x1), some (.inl x2), some (.inl x3), some (.inl x4), some (.inl x5)] [] := by
  unfold fX12_men_b39_body at hf
  refine r_iload C dX12_men_39 rfl ?_
  refine r_aload_n C dX12_men_41 rfl ?_
  obtain ⟨v1, ev1, hf⟩ := bS hf
  refine r_getI C dX12_men_42 fl_X12_233 rfl ev1 ?_
  refine r_icmp_ge (tgt := 113) C dX12_men_45 (by decide) (fun hc => ?_) (fun hc => ?_)
  · have hf := ifT hf hc
    refine r_iload_n C dX12_men_113 rfl ?_
    refine r_iload_n C dX12_men_114 rfl ?_
    refine r_iadd C dX12_men_115 ?_
    refine r_iload C dX12_men_116 rfl ?_
    refine r_iadd C dX12_men_118 ?_
    refine r_bipush (v := 12) C dX12_men_119 (by decide) ?_
    refine r_icmp_le (tgt := 127) C dX12_men_121 (by decide) (fun hc => ?_) (fun hc => ?_)
    · have hf := ifT hf hc
      refine r_aload_n C dX12_men_127 rfl ?_
      refine r_iload_n C dX12_men_128 rfl ?_
      refine r_iload_n C dX12_men_129 rfl ?_
      refine r_iload C dX12_men_130 rfl ?_
      refine r_iload_n C dX12_men_132 rfl ?_
      obtain ⟨a3, ea3, hf⟩ := bS hf
      obtain ⟨r2, er2, hf⟩ := bS hf
      refine r_invV1 (As := [.inl x2, .inl x3, .inl x4, .inl x1]) (ci := 12) C dX12_men_133 mcX12_menFor wd_1337 wd_1339 wp_47 rfl rfl (by decide) ⟨by decide, by decide⟩ ⟨by decide, by decide⟩ rfl (Nat.le_of_ble_eq_true rfl) ea3 (kX12_menFor l G er2) ?_
      refine r_istore C dX12_men_136 (by decide) ?_
      refine r_iload C dX12_men_138 rfl ?_
      refine r_sipush (v := 1000) C dX12_men_140 (by decide) ?_
      refine r_icmp_lt (tgt := 151) C dX12_men_143 (by decide) (fun hc => ?_) (fun hc => ?_)
      · have hf := ifT hf hc
        refine r_iload C dX12_men_151 rfl ?_
        exact V.sub (wX12_men_b153 C hret hf) (LW_s rfl (LW_n (LW_n (LW_n (LW_n (LW_n (LW_e)))))))
      · have hf := ifF hf hc
        refine r_bipush (v := -2) C dX12_men_146 (by decide) ?_
        refine r_goto (tgt := 153) C dX12_men_148 (by decide) ?_
        exact V.sub (wX12_men_b153 C hret hf) (LW_s rfl (LW_n (LW_n (LW_n (LW_n (LW_n (LW_e)))))))
    · have hf := ifF hf hc
      refine r_bipush (v := -4) C dX12_men_124 (by decide) ?_
      exact r_iretF C dX12_men_126 hret hf (by decide) (by decide)
  · have hf := ifF hf hc
    refine r_iload_n C dX12_men_48 rfl ?_
    refine r_aload_n C dX12_men_49 rfl ?_
    obtain ⟨o4, eo4, hf⟩ := bS hf
    refine r_getR C dX12_men_50 fl_X12_85 rfl eo4 ?_
    refine r_iload C dX12_men_53 rfl ?_
    obtain ⟨v5, ev5, hf⟩ := bS hf
    refine r_iald C dX12_men_55 ev5 ?_
    refine r_iconst (v := 5) C dX12_men_56 (by decide) ?_
    refine r_icmp_ne (tgt := 64) C dX12_men_57 (by decide) (fun hc => ?_) (fun hc => ?_)
    · have hf := ifF hf hc
      refine r_iconst (v := 0) C dX12_men_64 (by decide) ?_
      exact V.sub (wX12_men_b65 C hret hg39 hf) (LW_s rfl (LW_s rfl (LW_n (LW_s rfl (LW_s rfl (LW_s rfl (LW_e)))))))
    · have hf := ifT hf hc
      refine r_iconst (v := 1) C dX12_men_60 (by decide) ?_
      refine r_goto (tgt := 65) C dX12_men_61 (by decide) ?_
      exact V.sub (wX12_men_b65 C hret hg39 hf) (LW_s rfl (LW_s rfl (LW_n (LW_s rfl (LW_s rfl (LW_s rfl (LW_e)))))))
theorem wX12_men_b39 {p : Program} {l : Launch} {e : Env} {s : State} {m : MethodId} {args : Array Value} {below : List Frame} {meth : Method} {c : Code} {G : Gl} {N : Nat} {r : Int32 × Hs}  {t : Nat} (C : Cx p s m args meth c cX12_men RX12 6 G) (hret : meth.sig.returnType = (some .int))  : ∀ (n : Nat) (h : Hs) (x1 : Int32) (x2 : Int32) (x3 : Int32) (x4 : Int32) (x5 : Int32), fX12_men_b39 N  t n h x1 x2 x3 x4 x5 = some r → V p l e rmX12_men s m args below meth c G 6 (MQ below (QcG G (some (.inl r.1)) r.2) args s rmX12_men.cells rmX12_men.slots (AG G)) h 0 0 39 [some (.inr (some t)), some (.inl x1), some (.inl x2), some (.inl x3), some (.inl x4), some (.inl x5)] [] := by
  intro n
  induction n with
  | zero => intro h x1 x2 x3 x4 x5 hf; exact absurd (show (none : Option (Int32 × Hs)) = some r from hf) (fun q => by cases q)
  | succ n ih => intro h x1 x2 x3 x4 x5 hf; exact wX12_men_b39_body C hret  ih (show fX12_men_b39_body N  (fX12_men_b39 N  t n) t h x1 x2 x3 x4 x5 = some r from hf)
noncomputable def fX12_men (N : Nat) (h : Hs) (t : Nat) (p1 : Int32) : Option (Int32 × Hs) :=
  (oI 12 29 h (some t)).bind fun v1 =>
  if v1 = 0 then (
  fX12_men_b17 N t h)
  else (fX12_in N h p1 1 99).bind fun r2 =>
  if r2.1 = 0 then (
  fX12_men_b17 N t r2.2)
  else (oI 12 30 r2.2 (some t)).bind fun v3 =>
  if v3 = 0 then (
  fX12_men_b39 N t N r2.2 p1 0 0 0 0)
  else some ((-2), r2.2)
set_option maxHeartbeats 4000000 in
set_option maxRecDepth 20000 in
theorem kX12_men (l : Launch) (G : Gl) {N : Nat} {h : Hs} {t : Nat} {p1 : Int32} {r : Int32 × Hs} (hf : fX12_men N h t p1 = some r) : CT l G yX12_men cX12_men 6 (some .int) rmX12_men [.inr (some t), .inl p1] h (some (.inl r.1)) r.2 := by
  refine mk_CT (by decide) (Nat.le_of_ble_eq_true rfl) ?_
  intro p e s m args below meth c C hret hin
  unfold fX12_men at hf
  refine r_aload_n C dX12_men_0 rfl ?_
  obtain ⟨v1, ev1, hf⟩ := bS hf
  refine r_getI C dX12_men_1 fl_X12_227 rfl ev1 ?_
  refine r_if_eq (tgt := 17) C dX12_men_4 (by decide) (fun hc => ?_) (fun hc => ?_)
  · have hf := ifT hf hc
    exact V.sub (wX12_men_b17 C hret hf) (LW_s rfl (LW_n (LW_n (LW_n (LW_n (LW_n (LW_e)))))))
  · have hf := ifF hf hc
    refine r_iload_n C dX12_men_7 rfl ?_
    refine r_iconst (v := 1) C dX12_men_8 (by decide) ?_
    refine r_bipush (v := 99) C dX12_men_9 (by decide) ?_
    obtain ⟨r2, er2, hf⟩ := bS hf
    refine r_invS1 (As := [.inl p1, .inl 1, .inl 99]) C dX12_men_11 mcX12_in wd_1185 wd_1186 ⟨by decide, by decide⟩ ⟨by decide, by decide⟩ rfl (Nat.le_of_ble_eq_true rfl) (kX12_in l G er2) ?_
    refine r_if_ne (tgt := 19) C dX12_men_14 (by decide) (fun hc => ?_) (fun hc => ?_)
    · have hf := ifF hf hc
      refine r_aload_n C dX12_men_19 rfl ?_
      obtain ⟨v3, ev3, hf⟩ := bS hf
      refine r_getI C dX12_men_20 fl_X12_230 rfl ev3 ?_
      refine r_if_eq (tgt := 29) C dX12_men_23 (by decide) (fun hc => ?_) (fun hc => ?_)
      · have hf := ifT hf hc
        refine r_iconst (v := 0) C dX12_men_29 (by decide) ?_
        refine r_istore_n C dX12_men_30 (by decide) ?_
        refine r_iconst (v := 0) C dX12_men_31 (by decide) ?_
        refine r_istore_n C dX12_men_32 (by decide) ?_
        refine r_iconst (v := 0) C dX12_men_33 (by decide) ?_
        refine r_istore C dX12_men_34 (by decide) ?_
        refine r_iconst (v := 0) C dX12_men_36 (by decide) ?_
        refine r_istore C dX12_men_37 (by decide) ?_
        exact V.sub (wX12_men_b39 C hret N _ _ _ _ _ _ hf) (LW_s rfl (LW_s rfl (LW_s rfl (LW_s rfl (LW_s rfl (LW_s rfl (LW_e)))))))
      · have hf := ifF hf hc
        refine r_bipush (v := -2) C dX12_men_26 (by decide) ?_
        exact r_iretF C dX12_men_28 hret hf (by decide) (by decide)
    · have hf := ifT hf hc
      exact V.sub (wX12_men_b17 C hret hf) (LW_s rfl (LW_n (LW_n (LW_n (LW_n (LW_n (LW_e)))))))

theorem dgX12_feed_0 : (decode cX12_feed 0 = .ok (.iload_n 1, 1)) ∧ (decode cX12_feed 1 = .ok (.iconst 1, 1)) ∧ (decode cX12_feed 2 = .ok (.iconst 4, 1)) ∧ (decode cX12_feed 3 = .ok (.invokestatic 149, 3)) ∧ (decode cX12_feed 6 = .ok (.ifCond .ne 5, 3)) ∧ True := dkW [(0, .iload_n 1, 1), (1, .iconst 1, 1), (2, .iconst 4, 1), (3, .invokestatic 149, 3), (6, .ifCond .ne 5, 3)] 0 (by decide +kernel)
theorem dX12_feed_0 : decode cX12_feed 0 = .ok (.iload_n 1, 1) := dgX12_feed_0.1
theorem dX12_feed_1 : decode cX12_feed 1 = .ok (.iconst 1, 1) := dgX12_feed_0.2.1
theorem dX12_feed_2 : decode cX12_feed 2 = .ok (.iconst 4, 1) := dgX12_feed_0.2.2.1
theorem dX12_feed_3 : decode cX12_feed 3 = .ok (.invokestatic 149, 3) := dgX12_feed_0.2.2.2.1
theorem dX12_feed_6 : decode cX12_feed 6 = .ok (.ifCond .ne 5, 3) := dgX12_feed_0.2.2.2.2.1
theorem dX12_feed_9 : decode cX12_feed 9 = .ok (.iconst (-1), 1) := by decide +kernel
theorem dgX12_feed_10 : (decode cX12_feed 10 = .ok (.ireturn, 1)) ∧ (decode cX12_feed 11 = .ok (.aload_n 0, 1)) ∧ (decode cX12_feed 12 = .ok (.getfield 246, 3)) ∧ (decode cX12_feed 15 = .ok (.iload_n 1, 1)) ∧ (decode cX12_feed 16 = .ok (.iadd, 1)) ∧ (decode cX12_feed 17 = .ok (.bipush 120, 2)) ∧ (decode cX12_feed 19 = .ok (.if_icmp .le 6, 3)) ∧ (decode cX12_feed 22 = .ok (.bipush (-3), 2)) ∧ (decode cX12_feed 24 = .ok (.ireturn, 1)) ∧ (decode cX12_feed 25 = .ok (.iconst 0, 1)) ∧ (decode cX12_feed 26 = .ok (.istore_n 3, 1)) ∧ (decode cX12_feed 27 = .ok (.iload_n 3, 1)) ∧ True := dkW [(10, .ireturn, 1), (11, .aload_n 0, 1), (12, .getfield 246, 3), (15, .iload_n 1, 1), (16, .iadd, 1), (17, .bipush 120, 2), (19, .if_icmp .le 6, 3), (22, .bipush (-3), 2), (24, .ireturn, 1), (25, .iconst 0, 1), (26, .istore_n 3, 1), (27, .iload_n 3, 1)] 10 (by decide +kernel)
theorem dX12_feed_10 : decode cX12_feed 10 = .ok (.ireturn, 1) := dgX12_feed_10.1
theorem dX12_feed_11 : decode cX12_feed 11 = .ok (.aload_n 0, 1) := dgX12_feed_10.2.1
theorem dX12_feed_12 : decode cX12_feed 12 = .ok (.getfield 246, 3) := dgX12_feed_10.2.2.1
theorem dX12_feed_15 : decode cX12_feed 15 = .ok (.iload_n 1, 1) := dgX12_feed_10.2.2.2.1
theorem dX12_feed_16 : decode cX12_feed 16 = .ok (.iadd, 1) := dgX12_feed_10.2.2.2.2.1
theorem dX12_feed_17 : decode cX12_feed 17 = .ok (.bipush 120, 2) := dgX12_feed_10.2.2.2.2.2.1
theorem dX12_feed_19 : decode cX12_feed 19 = .ok (.if_icmp .le 6, 3) := dgX12_feed_10.2.2.2.2.2.2.1
theorem dX12_feed_22 : decode cX12_feed 22 = .ok (.bipush (-3), 2) := dgX12_feed_10.2.2.2.2.2.2.2.1
theorem dX12_feed_24 : decode cX12_feed 24 = .ok (.ireturn, 1) := dgX12_feed_10.2.2.2.2.2.2.2.2.1
theorem dX12_feed_25 : decode cX12_feed 25 = .ok (.iconst 0, 1) := dgX12_feed_10.2.2.2.2.2.2.2.2.2.1
theorem dX12_feed_26 : decode cX12_feed 26 = .ok (.istore_n 3, 1) := dgX12_feed_10.2.2.2.2.2.2.2.2.2.2.1
theorem dX12_feed_27 : decode cX12_feed 27 = .ok (.iload_n 3, 1) := dgX12_feed_10.2.2.2.2.2.2.2.2.2.2.2.1
theorem dgX12_feed_28 : (decode cX12_feed 28 = .ok (.iload_n 1, 1)) ∧ (decode cX12_feed 29 = .ok (.if_icmp .ge 35, 3)) ∧ (decode cX12_feed 32 = .ok (.aload_n 0, 1)) ∧ (decode cX12_feed 33 = .ok (.getfield 91, 3)) ∧ (decode cX12_feed 36 = .ok (.aload_n 0, 1)) ∧ (decode cX12_feed 37 = .ok (.getfield 246, 3)) ∧ (decode cX12_feed 40 = .ok (.iload_n 2, 1)) ∧ (decode cX12_feed 41 = .ok (.bipush 8, 2)) ∧ (decode cX12_feed 43 = .ok (.iload_n 3, 1)) ∧ (decode cX12_feed 44 = .ok (.imul, 1)) ∧ (decode cX12_feed 45 = .ok (.ishr, 1)) ∧ (decode cX12_feed 46 = .ok (.i2b, 1)) ∧ True := dkW [(28, .iload_n 1, 1), (29, .if_icmp .ge 35, 3), (32, .aload_n 0, 1), (33, .getfield 91, 3), (36, .aload_n 0, 1), (37, .getfield 246, 3), (40, .iload_n 2, 1), (41, .bipush 8, 2), (43, .iload_n 3, 1), (44, .imul, 1), (45, .ishr, 1), (46, .i2b, 1)] 28 (by decide +kernel)
theorem dX12_feed_28 : decode cX12_feed 28 = .ok (.iload_n 1, 1) := dgX12_feed_28.1
theorem dX12_feed_29 : decode cX12_feed 29 = .ok (.if_icmp .ge 35, 3) := dgX12_feed_28.2.1
theorem dX12_feed_32 : decode cX12_feed 32 = .ok (.aload_n 0, 1) := dgX12_feed_28.2.2.1
theorem dX12_feed_33 : decode cX12_feed 33 = .ok (.getfield 91, 3) := dgX12_feed_28.2.2.2.1
theorem dX12_feed_36 : decode cX12_feed 36 = .ok (.aload_n 0, 1) := dgX12_feed_28.2.2.2.2.1
theorem dX12_feed_37 : decode cX12_feed 37 = .ok (.getfield 246, 3) := dgX12_feed_28.2.2.2.2.2.1
theorem dX12_feed_40 : decode cX12_feed 40 = .ok (.iload_n 2, 1) := dgX12_feed_28.2.2.2.2.2.2.1
theorem dX12_feed_41 : decode cX12_feed 41 = .ok (.bipush 8, 2) := dgX12_feed_28.2.2.2.2.2.2.2.1
theorem dX12_feed_43 : decode cX12_feed 43 = .ok (.iload_n 3, 1) := dgX12_feed_28.2.2.2.2.2.2.2.2.1
theorem dX12_feed_44 : decode cX12_feed 44 = .ok (.imul, 1) := dgX12_feed_28.2.2.2.2.2.2.2.2.2.1
theorem dX12_feed_45 : decode cX12_feed 45 = .ok (.ishr, 1) := dgX12_feed_28.2.2.2.2.2.2.2.2.2.2.1
theorem dX12_feed_46 : decode cX12_feed 46 = .ok (.i2b, 1) := dgX12_feed_28.2.2.2.2.2.2.2.2.2.2.2.1
theorem dgX12_feed_47 : (decode cX12_feed 47 = .ok (.bastore, 1)) ∧ (decode cX12_feed 48 = .ok (.aload_n 0, 1)) ∧ (decode cX12_feed 49 = .ok (.dup, 1)) ∧ (decode cX12_feed 50 = .ok (.getfield 246, 3)) ∧ (decode cX12_feed 53 = .ok (.iconst 1, 1)) ∧ (decode cX12_feed 54 = .ok (.iadd, 1)) ∧ (decode cX12_feed 55 = .ok (.putfield 246, 3)) ∧ (decode cX12_feed 58 = .ok (.iinc 3 1, 3)) ∧ (decode cX12_feed 61 = .ok (.goto (-34), 3)) ∧ (decode cX12_feed 64 = .ok (.aload_n 0, 1)) ∧ (decode cX12_feed 65 = .ok (.getfield 246, 3)) ∧ (decode cX12_feed 68 = .ok (.ireturn, 1)) ∧ True := dkW [(47, .bastore, 1), (48, .aload_n 0, 1), (49, .dup, 1), (50, .getfield 246, 3), (53, .iconst 1, 1), (54, .iadd, 1), (55, .putfield 246, 3), (58, .iinc 3 1, 3), (61, .goto (-34), 3), (64, .aload_n 0, 1), (65, .getfield 246, 3), (68, .ireturn, 1)] 47 (by decide +kernel)
theorem dX12_feed_47 : decode cX12_feed 47 = .ok (.bastore, 1) := dgX12_feed_47.1
theorem dX12_feed_48 : decode cX12_feed 48 = .ok (.aload_n 0, 1) := dgX12_feed_47.2.1
theorem dX12_feed_49 : decode cX12_feed 49 = .ok (.dup, 1) := dgX12_feed_47.2.2.1
theorem dX12_feed_50 : decode cX12_feed 50 = .ok (.getfield 246, 3) := dgX12_feed_47.2.2.2.1
theorem dX12_feed_53 : decode cX12_feed 53 = .ok (.iconst 1, 1) := dgX12_feed_47.2.2.2.2.1
theorem dX12_feed_54 : decode cX12_feed 54 = .ok (.iadd, 1) := dgX12_feed_47.2.2.2.2.2.1
theorem dX12_feed_55 : decode cX12_feed 55 = .ok (.putfield 246, 3) := dgX12_feed_47.2.2.2.2.2.2.1
theorem dX12_feed_58 : decode cX12_feed 58 = .ok (.iinc 3 1, 3) := dgX12_feed_47.2.2.2.2.2.2.2.1
theorem dX12_feed_61 : decode cX12_feed 61 = .ok (.goto (-34), 3) := dgX12_feed_47.2.2.2.2.2.2.2.2.1
theorem dX12_feed_64 : decode cX12_feed 64 = .ok (.aload_n 0, 1) := dgX12_feed_47.2.2.2.2.2.2.2.2.2.1
theorem dX12_feed_65 : decode cX12_feed 65 = .ok (.getfield 246, 3) := dgX12_feed_47.2.2.2.2.2.2.2.2.2.2.1
theorem dX12_feed_68 : decode cX12_feed 68 = .ok (.ireturn, 1) := dgX12_feed_47.2.2.2.2.2.2.2.2.2.2.2.1
abbrev rmX12_feed : Room := { frames := 1, cells := 0, slots := 0, locals := 22 }
noncomputable def fX12_feed_b27_body (N : Nat)  (g27 : Hs → Int32 → Int32 → Int32 → Option (Int32 × Hs)) (t : Nat) (h : Hs) (x1 : Int32) (x2 : Int32) (x3 : Int32) : Option (Int32 × Hs) :=
  if x1 ≤ x3 then (
  (oI 12 37 h (some t)).bind fun v1 =>
  some (v1, h))
  else (oR 12 36 h (some t)).bind fun o2 =>
  (oI 12 37 h (some t)).bind fun v3 =>
  (sB h o2 v3 ((x2 >>> ((8 * x3) &&& 31)).toInt8.toInt32)).bind fun h4 =>
  (oI 12 37 h4 (some t)).bind fun v5 =>
  (qI 12 37 h4 (some t) (v5 + 1)).bind fun h6 =>
  (some (x3 + 1)).bind fun y7 =>
  g27 h6 x1 x2 y7
noncomputable def fX12_feed_b27 (N : Nat)  (t : Nat) (n : Nat) : Hs → Int32 → Int32 → Int32 → Option (Int32 × Hs) := lp (fun _ _ _ _ => none) (fun g h x1 x2 x3 => fX12_feed_b27_body N  g t h x1 x2 x3) n
set_option maxHeartbeats 4000000 in
set_option maxRecDepth 20000 in
theorem wX12_feed_b27_body {p : Program} {l : Launch} {e : Env} {s : State} {m : MethodId} {args : Array Value} {below : List Frame} {meth : Method} {c : Code} {G : Gl} {N : Nat} {h : Hs} {r : Int32 × Hs}  {g27 : Hs → Int32 → Int32 → Int32 → Option (Int32 × Hs)} {t : Nat} {x1 : Int32} {x2 : Int32} {x3 : Int32} (C : Cx p s m args meth c cX12_feed RX12 4 G) (hret : meth.sig.returnType = (some .int))  (hg27 : ∀ (h : Hs) (x1 : Int32) (x2 : Int32) (x3 : Int32), g27 h x1 x2 x3 = some r → V p l e rmX12_feed s m args below meth c G 4 (MQ below (QcG G (some (.inl r.1)) r.2) args s rmX12_feed.cells rmX12_feed.slots (AG G)) h 0 0 27 [some (.inr (some t)), some (.inl x1), some (.inl x2), some (.inl x3)] []) (hf : fX12_feed_b27_body N  g27 t h x1 x2 x3 = some r) : V p l e rmX12_feed s m args below meth c G 4 (MQ below (QcG G (some (.inl r.1)) r.2) args s rmX12_feed.cells rmX12_feed.slots (AG G)) h 0 0 27 [some (.inr (some t)), some (.inl x1), some (.inl x2), some (.inl x3)] [] := by
  unfold fX12_feed_b27_body at hf
  refine r_iload_n C dX12_feed_27 rfl ?_
  refine r_iload_n C dX12_feed_28 rfl ?_
  refine r_icmp_ge (tgt := 64) C dX12_feed_29 (by decide) (fun hc => ?_) (fun hc => ?_)
  · have hf := ifT hf hc
    refine r_aload_n C dX12_feed_64 rfl ?_
    obtain ⟨v1, ev1, hf⟩ := bS hf
    refine r_getI C dX12_feed_65 fl_X12_246 rfl ev1 ?_
    exact r_iretF C dX12_feed_68 hret hf (by decide) (by decide)
  · have hf := ifF hf hc
    refine r_aload_n C dX12_feed_32 rfl ?_
    obtain ⟨o2, eo2, hf⟩ := bS hf
    refine r_getR C dX12_feed_33 fl_X12_91 rfl eo2 ?_
    refine r_aload_n C dX12_feed_36 rfl ?_
    obtain ⟨v3, ev3, hf⟩ := bS hf
    refine r_getI C dX12_feed_37 fl_X12_246 rfl ev3 ?_
    refine r_iload_n C dX12_feed_40 rfl ?_
    refine r_bipush (v := 8) C dX12_feed_41 (by decide) ?_
    refine r_iload_n C dX12_feed_43 rfl ?_
    refine r_imul C dX12_feed_44 ?_
    refine r_ishr C dX12_feed_45 ?_
    refine r_i2b C dX12_feed_46 ?_
    obtain ⟨h4, eh4, hf⟩ := bS hf
    refine r_bast C dX12_feed_47 eh4 ?_
    refine r_aload_n C dX12_feed_48 rfl ?_
    refine r_dup C dX12_feed_49 ?_
    obtain ⟨v5, ev5, hf⟩ := bS hf
    refine r_getI C dX12_feed_50 fl_X12_246 rfl ev5 ?_
    refine r_iconst (v := 1) C dX12_feed_53 (by decide) ?_
    refine r_iadd C dX12_feed_54 ?_
    obtain ⟨h6, eh6, hf⟩ := bS hf
    refine r_putI C dX12_feed_55 fl_X12_246 (Or.inl fn_12_37) rfl eh6 ?_
    obtain ⟨y7, ey7, hf⟩ := bS hf
    refine r_iincE (v := 1) C dX12_feed_58 rfl (by decide) (by decide) ey7 ?_
    refine r_goto (tgt := 27) C dX12_feed_61 (by decide) ?_
    exact V.sub (hg27 _ _ _ _ hf) (LW_s rfl (LW_s rfl (LW_s rfl (LW_s rfl (LW_e)))))
theorem wX12_feed_b27 {p : Program} {l : Launch} {e : Env} {s : State} {m : MethodId} {args : Array Value} {below : List Frame} {meth : Method} {c : Code} {G : Gl} {N : Nat} {r : Int32 × Hs}  {t : Nat} (C : Cx p s m args meth c cX12_feed RX12 4 G) (hret : meth.sig.returnType = (some .int))  : ∀ (n : Nat) (h : Hs) (x1 : Int32) (x2 : Int32) (x3 : Int32), fX12_feed_b27 N  t n h x1 x2 x3 = some r → V p l e rmX12_feed s m args below meth c G 4 (MQ below (QcG G (some (.inl r.1)) r.2) args s rmX12_feed.cells rmX12_feed.slots (AG G)) h 0 0 27 [some (.inr (some t)), some (.inl x1), some (.inl x2), some (.inl x3)] [] := by
  intro n
  induction n with
  | zero => intro h x1 x2 x3 hf; exact absurd (show (none : Option (Int32 × Hs)) = some r from hf) (fun q => by cases q)
  | succ n ih => intro h x1 x2 x3 hf; exact wX12_feed_b27_body C hret  ih (show fX12_feed_b27_body N  (fX12_feed_b27 N  t n) t h x1 x2 x3 = some r from hf)
noncomputable def fX12_feed (N : Nat) (h : Hs) (t : Nat) (p1 : Int32) (p2 : Int32) : Option (Int32 × Hs) :=
  (fX12_in N h p1 1 4).bind fun r1 =>
  if r1.1 = 0 then (
  some ((-1), r1.2))
  else (oI 12 37 r1.2 (some t)).bind fun v2 =>
  if (v2 + p1) ≤ 120 then (
  fX12_feed_b27 N t N r1.2 p1 p2 0)
  else some ((-3), r1.2)
set_option maxHeartbeats 4000000 in
set_option maxRecDepth 20000 in
theorem kX12_feed (l : Launch) (G : Gl) {N : Nat} {h : Hs} {t : Nat} {p1 : Int32} {p2 : Int32} {r : Int32 × Hs} (hf : fX12_feed N h t p1 p2 = some r) : CT l G yX12_feed cX12_feed 4 (some .int) rmX12_feed [.inr (some t), .inl p1, .inl p2] h (some (.inl r.1)) r.2 := by
  refine mk_CT (by decide) (Nat.le_of_ble_eq_true rfl) ?_
  intro p e s m args below meth c C hret hin
  unfold fX12_feed at hf
  refine r_iload_n C dX12_feed_0 rfl ?_
  refine r_iconst (v := 1) C dX12_feed_1 (by decide) ?_
  refine r_iconst (v := 4) C dX12_feed_2 (by decide) ?_
  obtain ⟨r1, er1, hf⟩ := bS hf
  refine r_invS1 (As := [.inl p1, .inl 1, .inl 4]) C dX12_feed_3 mcX12_in wd_1185 wd_1186 ⟨by decide, by decide⟩ ⟨by decide, by decide⟩ rfl (Nat.le_of_ble_eq_true rfl) (kX12_in l G er1) ?_
  refine r_if_ne (tgt := 11) C dX12_feed_6 (by decide) (fun hc => ?_) (fun hc => ?_)
  · have hf := ifF hf hc
    refine r_aload_n C dX12_feed_11 rfl ?_
    obtain ⟨v2, ev2, hf⟩ := bS hf
    refine r_getI C dX12_feed_12 fl_X12_246 rfl ev2 ?_
    refine r_iload_n C dX12_feed_15 rfl ?_
    refine r_iadd C dX12_feed_16 ?_
    refine r_bipush (v := 120) C dX12_feed_17 (by decide) ?_
    refine r_icmp_le (tgt := 25) C dX12_feed_19 (by decide) (fun hc => ?_) (fun hc => ?_)
    · have hf := ifT hf hc
      refine r_iconst (v := 0) C dX12_feed_25 (by decide) ?_
      refine r_istore_n C dX12_feed_26 (by decide) ?_
      exact V.sub (wX12_feed_b27 C hret N _ _ _ _ hf) (LW_s rfl (LW_s rfl (LW_s rfl (LW_s rfl (LW_e)))))
    · have hf := ifF hf hc
      refine r_bipush (v := -3) C dX12_feed_22 (by decide) ?_
      exact r_iretF C dX12_feed_24 hret hf (by decide) (by decide)
  · have hf := ifT hf hc
    refine r_iconst (v := -1) C dX12_feed_9 (by decide) ?_
    exact r_iretF C dX12_feed_10 hret hf (by decide) (by decide)

theorem dgX12_look_0 : (decode cX12_look 0 = .ok (.aload_n 0, 1)) ∧ (decode cX12_look 1 = .ok (.getfield 249, 3)) ∧ (decode cX12_look 4 = .ok (.aload_n 0, 1)) ∧ (decode cX12_look 5 = .ok (.getfield 246, 3)) ∧ (decode cX12_look 8 = .ok (.if_icmp .ge 15, 3)) ∧ (decode cX12_look 11 = .ok (.aload_n 0, 1)) ∧ (decode cX12_look 12 = .ok (.getfield 91, 3)) ∧ (decode cX12_look 15 = .ok (.aload_n 0, 1)) ∧ (decode cX12_look 16 = .ok (.getfield 249, 3)) ∧ (decode cX12_look 19 = .ok (.baload, 1)) ∧ (decode cX12_look 20 = .ok (.goto 4, 3)) ∧ True := dkW [(0, .aload_n 0, 1), (1, .getfield 249, 3), (4, .aload_n 0, 1), (5, .getfield 246, 3), (8, .if_icmp .ge 15, 3), (11, .aload_n 0, 1), (12, .getfield 91, 3), (15, .aload_n 0, 1), (16, .getfield 249, 3), (19, .baload, 1), (20, .goto 4, 3)] 0 (by decide +kernel)
theorem dX12_look_0 : decode cX12_look 0 = .ok (.aload_n 0, 1) := dgX12_look_0.1
theorem dX12_look_1 : decode cX12_look 1 = .ok (.getfield 249, 3) := dgX12_look_0.2.1
theorem dX12_look_4 : decode cX12_look 4 = .ok (.aload_n 0, 1) := dgX12_look_0.2.2.1
theorem dX12_look_5 : decode cX12_look 5 = .ok (.getfield 246, 3) := dgX12_look_0.2.2.2.1
theorem dX12_look_8 : decode cX12_look 8 = .ok (.if_icmp .ge 15, 3) := dgX12_look_0.2.2.2.2.1
theorem dX12_look_11 : decode cX12_look 11 = .ok (.aload_n 0, 1) := dgX12_look_0.2.2.2.2.2.1
theorem dX12_look_12 : decode cX12_look 12 = .ok (.getfield 91, 3) := dgX12_look_0.2.2.2.2.2.2.1
theorem dX12_look_15 : decode cX12_look 15 = .ok (.aload_n 0, 1) := dgX12_look_0.2.2.2.2.2.2.2.1
theorem dX12_look_16 : decode cX12_look 16 = .ok (.getfield 249, 3) := dgX12_look_0.2.2.2.2.2.2.2.2.1
theorem dX12_look_19 : decode cX12_look 19 = .ok (.baload, 1) := dgX12_look_0.2.2.2.2.2.2.2.2.2.1
theorem dX12_look_20 : decode cX12_look 20 = .ok (.goto 4, 3) := dgX12_look_0.2.2.2.2.2.2.2.2.2.2.1
theorem dX12_look_23 : decode cX12_look 23 = .ok (.iconst (-1), 1) := by decide +kernel
theorem dgX12_look_24 : (decode cX12_look 24 = .ok (.ireturn, 1)) ∧ True := dkW [(24, .ireturn, 1)] 24 (by decide +kernel)
theorem dX12_look_24 : decode cX12_look 24 = .ok (.ireturn, 1) := dgX12_look_24.1
abbrev rmX12_look : Room := { frames := 0, cells := 0, slots := 0, locals := 0 }
noncomputable def fX12_look_b24 (N : Nat)  (t : Nat) (h : Hs) (u0 : Int32) : Option (Int32 × Hs) :=
  some (u0, h)
set_option maxHeartbeats 4000000 in
set_option maxRecDepth 20000 in
theorem wX12_look_b24 {p : Program} {l : Launch} {e : Env} {s : State} {m : MethodId} {args : Array Value} {below : List Frame} {meth : Method} {c : Code} {G : Gl} {N : Nat} {h : Hs} {r : Int32 × Hs}  {t : Nat} {u0 : Int32} (C : Cx p s m args meth c cX12_look RX12 1 G) (hret : meth.sig.returnType = (some .int))  (hf : fX12_look_b24 N  t h u0 = some r) : V p l e rmX12_look s m args below meth c G 1 (MQ below (QcG G (some (.inl r.1)) r.2) args s rmX12_look.cells rmX12_look.slots (AG G)) h 0 0 24 [some (.inr (some t))] [.inl u0] := by
  unfold fX12_look_b24 at hf
  exact r_iretF C dX12_look_24 hret hf (by decide) (by decide)
noncomputable def fX12_look (N : Nat) (h : Hs) (t : Nat)  : Option (Int32 × Hs) :=
  (oI 12 38 h (some t)).bind fun v1 =>
  (oI 12 37 h (some t)).bind fun v2 =>
  if v2 ≤ v1 then (
  fX12_look_b24 N t h (-1))
  else (oR 12 36 h (some t)).bind fun o3 =>
  (oI 12 38 h (some t)).bind fun v4 =>
  (lA 22 h o3 v4).bind fun v5 =>
  fX12_look_b24 N t h v5
set_option maxHeartbeats 4000000 in
set_option maxRecDepth 20000 in
theorem kX12_look (l : Launch) (G : Gl) {N : Nat} {h : Hs} {t : Nat}  {r : Int32 × Hs} (hf : fX12_look N h t  = some r) : CT l G yX12_look cX12_look 1 (some .int) rmX12_look [.inr (some t)] h (some (.inl r.1)) r.2 := by
  refine mk_CT (by decide) (Nat.le_of_ble_eq_true rfl) ?_
  intro p e s m args below meth c C hret hin
  unfold fX12_look at hf
  refine r_aload_n C dX12_look_0 rfl ?_
  obtain ⟨v1, ev1, hf⟩ := bS hf
  refine r_getI C dX12_look_1 fl_X12_249 rfl ev1 ?_
  refine r_aload_n C dX12_look_4 rfl ?_
  obtain ⟨v2, ev2, hf⟩ := bS hf
  refine r_getI C dX12_look_5 fl_X12_246 rfl ev2 ?_
  refine r_icmp_ge (tgt := 23) C dX12_look_8 (by decide) (fun hc => ?_) (fun hc => ?_)
  · have hf := ifT hf hc
    refine r_iconst (v := -1) C dX12_look_23 (by decide) ?_
    exact V.sub (wX12_look_b24 C hret hf) (LW_s rfl (LW_e))
  · have hf := ifF hf hc
    refine r_aload_n C dX12_look_11 rfl ?_
    obtain ⟨o3, eo3, hf⟩ := bS hf
    refine r_getR C dX12_look_12 fl_X12_91 rfl eo3 ?_
    refine r_aload_n C dX12_look_15 rfl ?_
    obtain ⟨v4, ev4, hf⟩ := bS hf
    refine r_getI C dX12_look_16 fl_X12_249 rfl ev4 ?_
    obtain ⟨v5, ev5, hf⟩ := bS hf
    refine r_bald C dX12_look_19 ev5 ?_
    refine r_goto (tgt := 24) C dX12_look_20 (by decide) ?_
    exact V.sub (wX12_look_b24 C hret hf) (LW_s rfl (LW_e))
