theorem dgX12_takes_0 : (decode cX12_takes 0 = .ok (.aload_n 0, 1)) ∧ (decode cX12_takes 1 = .ok (.invokevirtual 252, 3)) ∧ (decode cX12_takes 4 = .ok (.bipush 32, 2)) ∧ (decode cX12_takes 6 = .ok (.if_icmp .eq 5, 3)) ∧ (decode cX12_takes 9 = .ok (.iconst 0, 1)) ∧ (decode cX12_takes 10 = .ok (.ireturn, 1)) ∧ (decode cX12_takes 11 = .ok (.aload_n 0, 1)) ∧ (decode cX12_takes 12 = .ok (.dup, 1)) ∧ (decode cX12_takes 13 = .ok (.getfield 249, 3)) ∧ (decode cX12_takes 16 = .ok (.iconst 1, 1)) ∧ (decode cX12_takes 17 = .ok (.iadd, 1)) ∧ (decode cX12_takes 18 = .ok (.putfield 249, 3)) ∧ True := dkW [(0, .aload_n 0, 1), (1, .invokevirtual 252, 3), (4, .bipush 32, 2), (6, .if_icmp .eq 5, 3), (9, .iconst 0, 1), (10, .ireturn, 1), (11, .aload_n 0, 1), (12, .dup, 1), (13, .getfield 249, 3), (16, .iconst 1, 1), (17, .iadd, 1), (18, .putfield 249, 3)] 0 (by decide +kernel)
theorem dX12_takes_0 : decode cX12_takes 0 = .ok (.aload_n 0, 1) := dgX12_takes_0.1
theorem dX12_takes_1 : decode cX12_takes 1 = .ok (.invokevirtual 252, 3) := dgX12_takes_0.2.1
theorem dX12_takes_4 : decode cX12_takes 4 = .ok (.bipush 32, 2) := dgX12_takes_0.2.2.1
theorem dX12_takes_6 : decode cX12_takes 6 = .ok (.if_icmp .eq 5, 3) := dgX12_takes_0.2.2.2.1
theorem dX12_takes_9 : decode cX12_takes 9 = .ok (.iconst 0, 1) := dgX12_takes_0.2.2.2.2.1
theorem dX12_takes_10 : decode cX12_takes 10 = .ok (.ireturn, 1) := dgX12_takes_0.2.2.2.2.2.1
theorem dX12_takes_11 : decode cX12_takes 11 = .ok (.aload_n 0, 1) := dgX12_takes_0.2.2.2.2.2.2.1
theorem dX12_takes_12 : decode cX12_takes 12 = .ok (.dup, 1) := dgX12_takes_0.2.2.2.2.2.2.2.1
theorem dX12_takes_13 : decode cX12_takes 13 = .ok (.getfield 249, 3) := dgX12_takes_0.2.2.2.2.2.2.2.2.1
theorem dX12_takes_16 : decode cX12_takes 16 = .ok (.iconst 1, 1) := dgX12_takes_0.2.2.2.2.2.2.2.2.2.1
theorem dX12_takes_17 : decode cX12_takes 17 = .ok (.iadd, 1) := dgX12_takes_0.2.2.2.2.2.2.2.2.2.2.1
theorem dX12_takes_18 : decode cX12_takes 18 = .ok (.putfield 249, 3) := dgX12_takes_0.2.2.2.2.2.2.2.2.2.2.2.1
theorem dgX12_takes_21 : (decode cX12_takes 21 = .ok (.iload_n 1, 1)) ∧ (decode cX12_takes 22 = .ok (.ifCond .eq 16, 3)) ∧ (decode cX12_takes 25 = .ok (.aload_n 0, 1)) ∧ (decode cX12_takes 26 = .ok (.invokevirtual 252, 3)) ∧ (decode cX12_takes 29 = .ok (.bipush 45, 2)) ∧ (decode cX12_takes 31 = .ok (.if_icmp .ne 7, 3)) ∧ (decode cX12_takes 34 = .ok (.iconst 1, 1)) ∧ (decode cX12_takes 35 = .ok (.goto 4, 3)) ∧ (decode cX12_takes 38 = .ok (.iconst 0, 1)) ∧ (decode cX12_takes 39 = .ok (.istore_n 2, 1)) ∧ (decode cX12_takes 40 = .ok (.iload_n 2, 1)) ∧ (decode cX12_takes 41 = .ok (.ifCond .eq 13, 3)) ∧ True := dkW [(21, .iload_n 1, 1), (22, .ifCond .eq 16, 3), (25, .aload_n 0, 1), (26, .invokevirtual 252, 3), (29, .bipush 45, 2), (31, .if_icmp .ne 7, 3), (34, .iconst 1, 1), (35, .goto 4, 3), (38, .iconst 0, 1), (39, .istore_n 2, 1), (40, .iload_n 2, 1), (41, .ifCond .eq 13, 3)] 21 (by decide +kernel)
theorem dX12_takes_21 : decode cX12_takes 21 = .ok (.iload_n 1, 1) := dgX12_takes_21.1
theorem dX12_takes_22 : decode cX12_takes 22 = .ok (.ifCond .eq 16, 3) := dgX12_takes_21.2.1
theorem dX12_takes_25 : decode cX12_takes 25 = .ok (.aload_n 0, 1) := dgX12_takes_21.2.2.1
theorem dX12_takes_26 : decode cX12_takes 26 = .ok (.invokevirtual 252, 3) := dgX12_takes_21.2.2.2.1
theorem dX12_takes_29 : decode cX12_takes 29 = .ok (.bipush 45, 2) := dgX12_takes_21.2.2.2.2.1
theorem dX12_takes_31 : decode cX12_takes 31 = .ok (.if_icmp .ne 7, 3) := dgX12_takes_21.2.2.2.2.2.1
theorem dX12_takes_34 : decode cX12_takes 34 = .ok (.iconst 1, 1) := dgX12_takes_21.2.2.2.2.2.2.1
theorem dX12_takes_35 : decode cX12_takes 35 = .ok (.goto 4, 3) := dgX12_takes_21.2.2.2.2.2.2.2.1
theorem dX12_takes_38 : decode cX12_takes 38 = .ok (.iconst 0, 1) := dgX12_takes_21.2.2.2.2.2.2.2.2.1
theorem dX12_takes_39 : decode cX12_takes 39 = .ok (.istore_n 2, 1) := dgX12_takes_21.2.2.2.2.2.2.2.2.2.1
theorem dX12_takes_40 : decode cX12_takes 40 = .ok (.iload_n 2, 1) := dgX12_takes_21.2.2.2.2.2.2.2.2.2.2.1
theorem dX12_takes_41 : decode cX12_takes 41 = .ok (.ifCond .eq 13, 3) := dgX12_takes_21.2.2.2.2.2.2.2.2.2.2.2.1
theorem dgX12_takes_44 : (decode cX12_takes 44 = .ok (.aload_n 0, 1)) ∧ (decode cX12_takes 45 = .ok (.dup, 1)) ∧ (decode cX12_takes 46 = .ok (.getfield 249, 3)) ∧ (decode cX12_takes 49 = .ok (.iconst 1, 1)) ∧ (decode cX12_takes 50 = .ok (.iadd, 1)) ∧ (decode cX12_takes 51 = .ok (.putfield 249, 3)) ∧ (decode cX12_takes 54 = .ok (.iconst 0, 1)) ∧ (decode cX12_takes 55 = .ok (.istore_n 3, 1)) ∧ (decode cX12_takes 56 = .ok (.aload_n 0, 1)) ∧ (decode cX12_takes 57 = .ok (.iconst 0, 1)) ∧ (decode cX12_takes 58 = .ok (.putfield 255, 3)) ∧ (decode cX12_takes 61 = .ok (.iload_n 3, 1)) ∧ True := dkW [(44, .aload_n 0, 1), (45, .dup, 1), (46, .getfield 249, 3), (49, .iconst 1, 1), (50, .iadd, 1), (51, .putfield 249, 3), (54, .iconst 0, 1), (55, .istore_n 3, 1), (56, .aload_n 0, 1), (57, .iconst 0, 1), (58, .putfield 255, 3), (61, .iload_n 3, 1)] 44 (by decide +kernel)
theorem dX12_takes_44 : decode cX12_takes 44 = .ok (.aload_n 0, 1) := dgX12_takes_44.1
theorem dX12_takes_45 : decode cX12_takes 45 = .ok (.dup, 1) := dgX12_takes_44.2.1
theorem dX12_takes_46 : decode cX12_takes 46 = .ok (.getfield 249, 3) := dgX12_takes_44.2.2.1
theorem dX12_takes_49 : decode cX12_takes 49 = .ok (.iconst 1, 1) := dgX12_takes_44.2.2.2.1
theorem dX12_takes_50 : decode cX12_takes 50 = .ok (.iadd, 1) := dgX12_takes_44.2.2.2.2.1
theorem dX12_takes_51 : decode cX12_takes 51 = .ok (.putfield 249, 3) := dgX12_takes_44.2.2.2.2.2.1
theorem dX12_takes_54 : decode cX12_takes 54 = .ok (.iconst 0, 1) := dgX12_takes_44.2.2.2.2.2.2.1
theorem dX12_takes_55 : decode cX12_takes 55 = .ok (.istore_n 3, 1) := dgX12_takes_44.2.2.2.2.2.2.2.1
theorem dX12_takes_56 : decode cX12_takes 56 = .ok (.aload_n 0, 1) := dgX12_takes_44.2.2.2.2.2.2.2.2.1
theorem dX12_takes_57 : decode cX12_takes 57 = .ok (.iconst 0, 1) := dgX12_takes_44.2.2.2.2.2.2.2.2.2.1
theorem dX12_takes_58 : decode cX12_takes 58 = .ok (.putfield 255, 3) := dgX12_takes_44.2.2.2.2.2.2.2.2.2.2.1
theorem dX12_takes_61 : decode cX12_takes 61 = .ok (.iload_n 3, 1) := dgX12_takes_44.2.2.2.2.2.2.2.2.2.2.2.1
theorem dgX12_takes_62 : (decode cX12_takes 62 = .ok (.iconst 4, 1)) ∧ (decode cX12_takes 63 = .ok (.if_icmp .ge 52, 3)) ∧ (decode cX12_takes 66 = .ok (.aload_n 0, 1)) ∧ (decode cX12_takes 67 = .ok (.invokevirtual 252, 3)) ∧ (decode cX12_takes 70 = .ok (.bipush 48, 2)) ∧ (decode cX12_takes 72 = .ok (.bipush 57, 2)) ∧ (decode cX12_takes 74 = .ok (.invokestatic 149, 3)) ∧ (decode cX12_takes 77 = .ok (.ifCond .eq 38, 3)) ∧ (decode cX12_takes 80 = .ok (.aload_n 0, 1)) ∧ (decode cX12_takes 81 = .ok (.bipush 10, 2)) ∧ (decode cX12_takes 83 = .ok (.aload_n 0, 1)) ∧ (decode cX12_takes 84 = .ok (.getfield 255, 3)) ∧ True := dkW [(62, .iconst 4, 1), (63, .if_icmp .ge 52, 3), (66, .aload_n 0, 1), (67, .invokevirtual 252, 3), (70, .bipush 48, 2), (72, .bipush 57, 2), (74, .invokestatic 149, 3), (77, .ifCond .eq 38, 3), (80, .aload_n 0, 1), (81, .bipush 10, 2), (83, .aload_n 0, 1), (84, .getfield 255, 3)] 62 (by decide +kernel)
theorem dX12_takes_62 : decode cX12_takes 62 = .ok (.iconst 4, 1) := dgX12_takes_62.1
theorem dX12_takes_63 : decode cX12_takes 63 = .ok (.if_icmp .ge 52, 3) := dgX12_takes_62.2.1
theorem dX12_takes_66 : decode cX12_takes 66 = .ok (.aload_n 0, 1) := dgX12_takes_62.2.2.1
theorem dX12_takes_67 : decode cX12_takes 67 = .ok (.invokevirtual 252, 3) := dgX12_takes_62.2.2.2.1
theorem dX12_takes_70 : decode cX12_takes 70 = .ok (.bipush 48, 2) := dgX12_takes_62.2.2.2.2.1
theorem dX12_takes_72 : decode cX12_takes 72 = .ok (.bipush 57, 2) := dgX12_takes_62.2.2.2.2.2.1
theorem dX12_takes_74 : decode cX12_takes 74 = .ok (.invokestatic 149, 3) := dgX12_takes_62.2.2.2.2.2.2.1
theorem dX12_takes_77 : decode cX12_takes 77 = .ok (.ifCond .eq 38, 3) := dgX12_takes_62.2.2.2.2.2.2.2.1
theorem dX12_takes_80 : decode cX12_takes 80 = .ok (.aload_n 0, 1) := dgX12_takes_62.2.2.2.2.2.2.2.2.1
theorem dX12_takes_81 : decode cX12_takes 81 = .ok (.bipush 10, 2) := dgX12_takes_62.2.2.2.2.2.2.2.2.2.1
theorem dX12_takes_83 : decode cX12_takes 83 = .ok (.aload_n 0, 1) := dgX12_takes_62.2.2.2.2.2.2.2.2.2.2.1
theorem dX12_takes_84 : decode cX12_takes 84 = .ok (.getfield 255, 3) := dgX12_takes_62.2.2.2.2.2.2.2.2.2.2.2.1
theorem dgX12_takes_87 : (decode cX12_takes 87 = .ok (.imul, 1)) ∧ (decode cX12_takes 88 = .ok (.aload_n 0, 1)) ∧ (decode cX12_takes 89 = .ok (.invokevirtual 252, 3)) ∧ (decode cX12_takes 92 = .ok (.iadd, 1)) ∧ (decode cX12_takes 93 = .ok (.bipush 48, 2)) ∧ (decode cX12_takes 95 = .ok (.isub, 1)) ∧ (decode cX12_takes 96 = .ok (.putfield 255, 3)) ∧ (decode cX12_takes 99 = .ok (.iinc 3 1, 3)) ∧ (decode cX12_takes 102 = .ok (.aload_n 0, 1)) ∧ (decode cX12_takes 103 = .ok (.dup, 1)) ∧ (decode cX12_takes 104 = .ok (.getfield 249, 3)) ∧ (decode cX12_takes 107 = .ok (.iconst 1, 1)) ∧ True := dkW [(87, .imul, 1), (88, .aload_n 0, 1), (89, .invokevirtual 252, 3), (92, .iadd, 1), (93, .bipush 48, 2), (95, .isub, 1), (96, .putfield 255, 3), (99, .iinc 3 1, 3), (102, .aload_n 0, 1), (103, .dup, 1), (104, .getfield 249, 3), (107, .iconst 1, 1)] 87 (by decide +kernel)
theorem dX12_takes_87 : decode cX12_takes 87 = .ok (.imul, 1) := dgX12_takes_87.1
theorem dX12_takes_88 : decode cX12_takes 88 = .ok (.aload_n 0, 1) := dgX12_takes_87.2.1
theorem dX12_takes_89 : decode cX12_takes 89 = .ok (.invokevirtual 252, 3) := dgX12_takes_87.2.2.1
theorem dX12_takes_92 : decode cX12_takes 92 = .ok (.iadd, 1) := dgX12_takes_87.2.2.2.1
theorem dX12_takes_93 : decode cX12_takes 93 = .ok (.bipush 48, 2) := dgX12_takes_87.2.2.2.2.1
theorem dX12_takes_95 : decode cX12_takes 95 = .ok (.isub, 1) := dgX12_takes_87.2.2.2.2.2.1
theorem dX12_takes_96 : decode cX12_takes 96 = .ok (.putfield 255, 3) := dgX12_takes_87.2.2.2.2.2.2.1
theorem dX12_takes_99 : decode cX12_takes 99 = .ok (.iinc 3 1, 3) := dgX12_takes_87.2.2.2.2.2.2.2.1
theorem dX12_takes_102 : decode cX12_takes 102 = .ok (.aload_n 0, 1) := dgX12_takes_87.2.2.2.2.2.2.2.2.1
theorem dX12_takes_103 : decode cX12_takes 103 = .ok (.dup, 1) := dgX12_takes_87.2.2.2.2.2.2.2.2.2.1
theorem dX12_takes_104 : decode cX12_takes 104 = .ok (.getfield 249, 3) := dgX12_takes_87.2.2.2.2.2.2.2.2.2.2.1
theorem dX12_takes_107 : decode cX12_takes 107 = .ok (.iconst 1, 1) := dgX12_takes_87.2.2.2.2.2.2.2.2.2.2.2.1
theorem dgX12_takes_108 : (decode cX12_takes 108 = .ok (.iadd, 1)) ∧ (decode cX12_takes 109 = .ok (.putfield 249, 3)) ∧ (decode cX12_takes 112 = .ok (.goto (-51), 3)) ∧ (decode cX12_takes 115 = .ok (.aload_n 0, 1)) ∧ (decode cX12_takes 116 = .ok (.iload_n 2, 1)) ∧ (decode cX12_takes 117 = .ok (.ifCond .eq 11, 3)) ∧ (decode cX12_takes 120 = .ok (.aload_n 0, 1)) ∧ (decode cX12_takes 121 = .ok (.getfield 255, 3)) ∧ (decode cX12_takes 124 = .ok (.ineg, 1)) ∧ (decode cX12_takes 125 = .ok (.goto 7, 3)) ∧ (decode cX12_takes 128 = .ok (.aload_n 0, 1)) ∧ (decode cX12_takes 129 = .ok (.getfield 255, 3)) ∧ True := dkW [(108, .iadd, 1), (109, .putfield 249, 3), (112, .goto (-51), 3), (115, .aload_n 0, 1), (116, .iload_n 2, 1), (117, .ifCond .eq 11, 3), (120, .aload_n 0, 1), (121, .getfield 255, 3), (124, .ineg, 1), (125, .goto 7, 3), (128, .aload_n 0, 1), (129, .getfield 255, 3)] 108 (by decide +kernel)
theorem dX12_takes_108 : decode cX12_takes 108 = .ok (.iadd, 1) := dgX12_takes_108.1
theorem dX12_takes_109 : decode cX12_takes 109 = .ok (.putfield 249, 3) := dgX12_takes_108.2.1
theorem dX12_takes_112 : decode cX12_takes 112 = .ok (.goto (-51), 3) := dgX12_takes_108.2.2.1
theorem dX12_takes_115 : decode cX12_takes 115 = .ok (.aload_n 0, 1) := dgX12_takes_108.2.2.2.1
theorem dX12_takes_116 : decode cX12_takes 116 = .ok (.iload_n 2, 1) := dgX12_takes_108.2.2.2.2.1
theorem dX12_takes_117 : decode cX12_takes 117 = .ok (.ifCond .eq 11, 3) := dgX12_takes_108.2.2.2.2.2.1
theorem dX12_takes_120 : decode cX12_takes 120 = .ok (.aload_n 0, 1) := dgX12_takes_108.2.2.2.2.2.2.1
theorem dX12_takes_121 : decode cX12_takes 121 = .ok (.getfield 255, 3) := dgX12_takes_108.2.2.2.2.2.2.2.1
theorem dX12_takes_124 : decode cX12_takes 124 = .ok (.ineg, 1) := dgX12_takes_108.2.2.2.2.2.2.2.2.1
theorem dX12_takes_125 : decode cX12_takes 125 = .ok (.goto 7, 3) := dgX12_takes_108.2.2.2.2.2.2.2.2.2.1
theorem dX12_takes_128 : decode cX12_takes 128 = .ok (.aload_n 0, 1) := dgX12_takes_108.2.2.2.2.2.2.2.2.2.2.1
theorem dX12_takes_129 : decode cX12_takes 129 = .ok (.getfield 255, 3) := dgX12_takes_108.2.2.2.2.2.2.2.2.2.2.2.1
theorem dgX12_takes_132 : (decode cX12_takes 132 = .ok (.putfield 255, 3)) ∧ (decode cX12_takes 135 = .ok (.iload_n 3, 1)) ∧ (decode cX12_takes 136 = .ok (.ifCond .le 7, 3)) ∧ (decode cX12_takes 139 = .ok (.iconst 1, 1)) ∧ (decode cX12_takes 140 = .ok (.goto 4, 3)) ∧ (decode cX12_takes 143 = .ok (.iconst 0, 1)) ∧ (decode cX12_takes 144 = .ok (.ireturn, 1)) ∧ True := dkW [(132, .putfield 255, 3), (135, .iload_n 3, 1), (136, .ifCond .le 7, 3), (139, .iconst 1, 1), (140, .goto 4, 3), (143, .iconst 0, 1), (144, .ireturn, 1)] 132 (by decide +kernel)
theorem dX12_takes_132 : decode cX12_takes 132 = .ok (.putfield 255, 3) := dgX12_takes_132.1
theorem dX12_takes_135 : decode cX12_takes 135 = .ok (.iload_n 3, 1) := dgX12_takes_132.2.1
theorem dX12_takes_136 : decode cX12_takes 136 = .ok (.ifCond .le 7, 3) := dgX12_takes_132.2.2.1
theorem dX12_takes_139 : decode cX12_takes 139 = .ok (.iconst 1, 1) := dgX12_takes_132.2.2.2.1
theorem dX12_takes_140 : decode cX12_takes 140 = .ok (.goto 4, 3) := dgX12_takes_132.2.2.2.2.1
theorem dX12_takes_143 : decode cX12_takes 143 = .ok (.iconst 0, 1) := dgX12_takes_132.2.2.2.2.2.1
theorem dX12_takes_144 : decode cX12_takes 144 = .ok (.ireturn, 1) := dgX12_takes_132.2.2.2.2.2.2.1
abbrev rmX12_takes : Room := { frames := 1, cells := 0, slots := 0, locals := 22 }
noncomputable def fX12_takes_b144 (N : Nat)  (t : Nat) (h : Hs) (u0 : Int32) : Option (Int32 × Hs) :=
  (zc u0).bind fun z1 =>
  some (z1, h)
set_option maxHeartbeats 4000000 in
set_option maxRecDepth 20000 in
theorem wX12_takes_b144 {p : Program} {l : Launch} {e : Env} {s : State} {m : MethodId} {args : Array Value} {below : List Frame} {meth : Method} {c : Code} {G : Gl} {N : Nat} {h : Hs} {r : Int32 × Hs}  {t : Nat} {u0 : Int32} (C : Cx p s m args meth c cX12_takes RX12 4 G) (hret : meth.sig.returnType = (some .boolean))  (hf : fX12_takes_b144 N  t h u0 = some r) : V p l e rmX12_takes s m args below meth c G 4 (MQ below (QcG G (some (.inl r.1)) r.2) args s rmX12_takes.cells rmX12_takes.slots (AG G)) h 0 0 144 [some (.inr (some t)), none, none, none] [.inl u0] := by
  unfold fX12_takes_b144 at hf
  obtain ⟨z1, ez1, hf⟩ := bS hf
  exact r_zretF C dX12_takes_144 hret ez1 hf (by decide) (by decide)
noncomputable def fX12_takes_b132 (N : Nat)  (t : Nat) (h : Hs) (x3 : Int32) (q0 : Option Nat) (u1 : Int32) : Option (Int32 × Hs) :=
  (qI 12 51 h q0 u1).bind fun h1 =>
  if x3 ≤ 0 then (
  fX12_takes_b144 N t h1 0)
  else fX12_takes_b144 N t h1 1
set_option maxHeartbeats 4000000 in
set_option maxRecDepth 20000 in
theorem wX12_takes_b132 {p : Program} {l : Launch} {e : Env} {s : State} {m : MethodId} {args : Array Value} {below : List Frame} {meth : Method} {c : Code} {G : Gl} {N : Nat} {h : Hs} {r : Int32 × Hs}  {t : Nat} {x3 : Int32} {q0 : Option Nat} {u1 : Int32} (C : Cx p s m args meth c cX12_takes RX12 4 G) (hret : meth.sig.returnType = (some .boolean))  (hf : fX12_takes_b132 N  t h x3 q0 u1 = some r) : V p l e rmX12_takes s m args below meth c G 4 (MQ below (QcG G (some (.inl r.1)) r.2) args s rmX12_takes.cells rmX12_takes.slots (AG G)) h 0 0 132 [some (.inr (some t)), none, none, some (.inl x3)] [.inl u1, .inr q0] := by
  unfold fX12_takes_b132 at hf
  obtain ⟨h1, eh1, hf⟩ := bS hf
  refine r_putI C dX12_takes_132 fl_X12_255 (Or.inl fn_12_51) rfl eh1 ?_
  refine r_iload_n C dX12_takes_135 rfl ?_
  refine r_if_le (tgt := 143) C dX12_takes_136 (by decide) (fun hc => ?_) (fun hc => ?_)
  · have hf := ifT hf hc
    refine r_iconst (v := 0) C dX12_takes_143 (by decide) ?_
    exact V.sub (wX12_takes_b144 C hret hf) (LW_s rfl (LW_n (LW_n (LW_n (LW_e)))))
  · have hf := ifF hf hc
    refine r_iconst (v := 1) C dX12_takes_139 (by decide) ?_
    refine r_goto (tgt := 144) C dX12_takes_140 (by decide) ?_
    exact V.sub (wX12_takes_b144 C hret hf) (LW_s rfl (LW_n (LW_n (LW_n (LW_e)))))
noncomputable def fX12_takes_b115 (N : Nat)  (t : Nat) (h : Hs) (x2 : Int32) (x3 : Int32) : Option (Int32 × Hs) :=
  if x2 = 0 then (
  (oI 12 51 h (some t)).bind fun v1 =>
  fX12_takes_b132 N t h x3 (some t) v1)
  else (oI 12 51 h (some t)).bind fun v2 =>
  fX12_takes_b132 N t h x3 (some t) (-v2)
set_option maxHeartbeats 4000000 in
set_option maxRecDepth 20000 in
theorem wX12_takes_b115 {p : Program} {l : Launch} {e : Env} {s : State} {m : MethodId} {args : Array Value} {below : List Frame} {meth : Method} {c : Code} {G : Gl} {N : Nat} {h : Hs} {r : Int32 × Hs}  {t : Nat} {x2 : Int32} {x3 : Int32} (C : Cx p s m args meth c cX12_takes RX12 4 G) (hret : meth.sig.returnType = (some .boolean))  (hf : fX12_takes_b115 N  t h x2 x3 = some r) : V p l e rmX12_takes s m args below meth c G 4 (MQ below (QcG G (some (.inl r.1)) r.2) args s rmX12_takes.cells rmX12_takes.slots (AG G)) h 0 0 115 [some (.inr (some t)), none, some (.inl x2), some (.inl x3)] [] := by
  unfold fX12_takes_b115 at hf
  refine r_aload_n C dX12_takes_115 rfl ?_
  refine r_iload_n C dX12_takes_116 rfl ?_
  refine r_if_eq (tgt := 128) C dX12_takes_117 (by decide) (fun hc => ?_) (fun hc => ?_)
  · have hf := ifT hf hc
    refine r_aload_n C dX12_takes_128 rfl ?_
    obtain ⟨v1, ev1, hf⟩ := bS hf
    refine r_getI C dX12_takes_129 fl_X12_255 rfl ev1 ?_
    exact V.sub (wX12_takes_b132 C hret hf) (LW_s rfl (LW_n (LW_n (LW_s rfl (LW_e)))))
  · have hf := ifF hf hc
    refine r_aload_n C dX12_takes_120 rfl ?_
    obtain ⟨v2, ev2, hf⟩ := bS hf
    refine r_getI C dX12_takes_121 fl_X12_255 rfl ev2 ?_
    refine r_ineg C dX12_takes_124 ?_
    refine r_goto (tgt := 132) C dX12_takes_125 (by decide) ?_
    exact V.sub (wX12_takes_b132 C hret hf) (LW_s rfl (LW_n (LW_n (LW_s rfl (LW_e)))))
noncomputable def fX12_takes_b61_body (N : Nat)  (g61 : Hs → Int32 → Int32 → Option (Int32 × Hs)) (t : Nat) (h : Hs) (x2 : Int32) (x3 : Int32) : Option (Int32 × Hs) :=
  if 4 ≤ x3 then (
  fX12_takes_b115 N t h x2 x3)
  else (rc 12 h (some t)).bind fun a2 =>
  (fX12_look N h a2 ).bind fun r1 =>
  (fX12_in N r1.2 r1.1 48 57).bind fun r3 =>
  if r3.1 = 0 then (
  fX12_takes_b115 N t r3.2 x2 x3)
  else (oI 12 51 r3.2 (some t)).bind fun v4 =>
  (rc 12 r3.2 (some t)).bind fun a6 =>
  (fX12_look N r3.2 a6 ).bind fun r5 =>
  (qI 12 51 r5.2 (some t) (((10 * v4) + r5.1) - 48)).bind fun h7 =>
  (some (x3 + 1)).bind fun y8 =>
  (oI 12 38 h7 (some t)).bind fun v9 =>
  (qI 12 38 h7 (some t) (v9 + 1)).bind fun h10 =>
  g61 h10 x2 y8
noncomputable def fX12_takes_b61 (N : Nat)  (t : Nat) (n : Nat) : Hs → Int32 → Int32 → Option (Int32 × Hs) := lp (fun _ _ _ => none) (fun g h x2 x3 => fX12_takes_b61_body N  g t h x2 x3) n
set_option maxHeartbeats 4000000 in
set_option maxRecDepth 20000 in
theorem wX12_takes_b61_body {p : Program} {l : Launch} {e : Env} {s : State} {m : MethodId} {args : Array Value} {below : List Frame} {meth : Method} {c : Code} {G : Gl} {N : Nat} {h : Hs} {r : Int32 × Hs}  {g61 : Hs → Int32 → Int32 → Option (Int32 × Hs)} {t : Nat} {x2 : Int32} {x3 : Int32} (C : Cx p s m args meth c cX12_takes RX12 4 G) (hret : meth.sig.returnType = (some .boolean))  (hg61 : ∀ (h : Hs) (x2 : Int32) (x3 : Int32), g61 h x2 x3 = some r → V p l e rmX12_takes s m args below meth c G 4 (MQ below (QcG G (some (.inl r.1)) r.2) args s rmX12_takes.cells rmX12_takes.slots (AG G)) h 0 0 61 [some (.inr (some t)), none, some (.inl x2), some (.inl x3)] []) (hf : fX12_takes_b61_body N  g61 t h x2 x3 = some r) : V p l e rmX12_takes s m args below meth c G 4 (MQ below (QcG G (some (.inl r.1)) r.2) args s rmX12_takes.cells rmX12_takes.slots (AG G)) h 0 0 61 [some (.inr (some t)), none, some (.inl x2), some (.inl x3)] [] := by
  unfold fX12_takes_b61_body at hf
  refine r_iload_n C dX12_takes_61 rfl ?_
  refine r_iconst (v := 4) C dX12_takes_62 (by decide) ?_
  refine r_icmp_ge (tgt := 115) C dX12_takes_63 (by decide) (fun hc => ?_) (fun hc => ?_)
  · have hf := ifT hf hc
    exact V.sub (wX12_takes_b115 C hret hf) (LW_s rfl (LW_n (LW_s rfl (LW_s rfl (LW_e)))))
  · have hf := ifF hf hc
    refine r_aload_n C dX12_takes_66 rfl ?_
    obtain ⟨a2, ea2, hf⟩ := bS hf
    obtain ⟨r1, er1, hf⟩ := bS hf
    refine r_invV1 (As := []) (ci := 12) C dX12_takes_67 mcX12_look wd_1353 wd_1355 wp_49 rfl rfl (by decide) ⟨by decide, by decide⟩ ⟨by decide, by decide⟩ rfl (Nat.le_of_ble_eq_true rfl) ea2 (kX12_look l G er1) ?_
    refine r_bipush (v := 48) C dX12_takes_70 (by decide) ?_
    refine r_bipush (v := 57) C dX12_takes_72 (by decide) ?_
    obtain ⟨r3, er3, hf⟩ := bS hf
    refine r_invS1 (As := [.inl r1.1, .inl 48, .inl 57]) C dX12_takes_74 mcX12_in wd_1185 wd_1186 ⟨by decide, by decide⟩ ⟨by decide, by decide⟩ rfl (Nat.le_of_ble_eq_true rfl) (kX12_in l G er3) ?_
    refine r_if_eq (tgt := 115) C dX12_takes_77 (by decide) (fun hc => ?_) (fun hc => ?_)
    · have hf := ifT hf hc
      exact V.sub (wX12_takes_b115 C hret hf) (LW_s rfl (LW_n (LW_s rfl (LW_s rfl (LW_e)))))
    · have hf := ifF hf hc
      refine r_aload_n C dX12_takes_80 rfl ?_
      refine r_bipush (v := 10) C dX12_takes_81 (by decide) ?_
      refine r_aload_n C dX12_takes_83 rfl ?_
      obtain ⟨v4, ev4, hf⟩ := bS hf
      refine r_getI C dX12_takes_84 fl_X12_255 rfl ev4 ?_
      refine r_imul C dX12_takes_87 ?_
      refine r_aload_n C dX12_takes_88 rfl ?_
      obtain ⟨a6, ea6, hf⟩ := bS hf
      obtain ⟨r5, er5, hf⟩ := bS hf
      refine r_invV1 (As := []) (ci := 12) C dX12_takes_89 mcX12_look wd_1353 wd_1355 wp_49 rfl rfl (by decide) ⟨by decide, by decide⟩ ⟨by decide, by decide⟩ rfl (Nat.le_of_ble_eq_true rfl) ea6 (kX12_look l G er5) ?_
      refine r_iadd C dX12_takes_92 ?_
      refine r_bipush (v := 48) C dX12_takes_93 (by decide) ?_
      refine r_isub C dX12_takes_95 ?_
      obtain ⟨h7, eh7, hf⟩ := bS hf
      refine r_putI C dX12_takes_96 fl_X12_255 (Or.inl fn_12_51) rfl eh7 ?_
      obtain ⟨y8, ey8, hf⟩ := bS hf
      refine r_iincE (v := 1) C dX12_takes_99 rfl (by decide) (by decide) ey8 ?_
      refine r_aload_n C dX12_takes_102 rfl ?_
      refine r_dup C dX12_takes_103 ?_
      obtain ⟨v9, ev9, hf⟩ := bS hf
      refine r_getI C dX12_takes_104 fl_X12_249 rfl ev9 ?_
      refine r_iconst (v := 1) C dX12_takes_107 (by decide) ?_
      refine r_iadd C dX12_takes_108 ?_
      obtain ⟨h10, eh10, hf⟩ := bS hf
      refine r_putI C dX12_takes_109 fl_X12_249 (Or.inl fn_12_38) rfl eh10 ?_
      refine r_goto (tgt := 61) C dX12_takes_112 (by decide) ?_
      exact V.sub (hg61 _ _ _ hf) (LW_s rfl (LW_n (LW_s rfl (LW_s rfl (LW_e)))))
theorem wX12_takes_b61 {p : Program} {l : Launch} {e : Env} {s : State} {m : MethodId} {args : Array Value} {below : List Frame} {meth : Method} {c : Code} {G : Gl} {N : Nat} {r : Int32 × Hs}  {t : Nat} (C : Cx p s m args meth c cX12_takes RX12 4 G) (hret : meth.sig.returnType = (some .boolean))  : ∀ (n : Nat) (h : Hs) (x2 : Int32) (x3 : Int32), fX12_takes_b61 N  t n h x2 x3 = some r → V p l e rmX12_takes s m args below meth c G 4 (MQ below (QcG G (some (.inl r.1)) r.2) args s rmX12_takes.cells rmX12_takes.slots (AG G)) h 0 0 61 [some (.inr (some t)), none, some (.inl x2), some (.inl x3)] [] := by
  intro n
  induction n with
  | zero => intro h x2 x3 hf; exact absurd (show (none : Option (Int32 × Hs)) = some r from hf) (fun q => by cases q)
  | succ n ih => intro h x2 x3 hf; exact wX12_takes_b61_body C hret  ih (show fX12_takes_b61_body N  (fX12_takes_b61 N  t n) t h x2 x3 = some r from hf)
noncomputable def fX12_takes_b54 (N : Nat)  (t : Nat) (h : Hs) (x2 : Int32) : Option (Int32 × Hs) :=
  (qI 12 51 h (some t) 0).bind fun h1 =>
  fX12_takes_b61 N t N h1 x2 0
set_option maxHeartbeats 4000000 in
set_option maxRecDepth 20000 in
theorem wX12_takes_b54 {p : Program} {l : Launch} {e : Env} {s : State} {m : MethodId} {args : Array Value} {below : List Frame} {meth : Method} {c : Code} {G : Gl} {N : Nat} {h : Hs} {r : Int32 × Hs}  {t : Nat} {x2 : Int32} (C : Cx p s m args meth c cX12_takes RX12 4 G) (hret : meth.sig.returnType = (some .boolean))  (hf : fX12_takes_b54 N  t h x2 = some r) : V p l e rmX12_takes s m args below meth c G 4 (MQ below (QcG G (some (.inl r.1)) r.2) args s rmX12_takes.cells rmX12_takes.slots (AG G)) h 0 0 54 [some (.inr (some t)), none, some (.inl x2), none] [] := by
  unfold fX12_takes_b54 at hf
  refine r_iconst (v := 0) C dX12_takes_54 (by decide) ?_
  refine r_istore_n C dX12_takes_55 (by decide) ?_
  refine r_aload_n C dX12_takes_56 rfl ?_
  refine r_iconst (v := 0) C dX12_takes_57 (by decide) ?_
  obtain ⟨h1, eh1, hf⟩ := bS hf
  refine r_putI C dX12_takes_58 fl_X12_255 (Or.inl fn_12_51) rfl eh1 ?_
  exact V.sub (wX12_takes_b61 C hret N _ _ _ hf) (LW_s rfl (LW_n (LW_s rfl (LW_s rfl (LW_e)))))
noncomputable def fX12_takes_b39 (N : Nat)  (t : Nat) (h : Hs) (u0 : Int32) : Option (Int32 × Hs) :=
  if u0 = 0 then (
  fX12_takes_b54 N t h u0)
  else (oI 12 38 h (some t)).bind fun v1 =>
  (qI 12 38 h (some t) (v1 + 1)).bind fun h2 =>
  fX12_takes_b54 N t h2 u0
set_option maxHeartbeats 4000000 in
set_option maxRecDepth 20000 in
theorem wX12_takes_b39 {p : Program} {l : Launch} {e : Env} {s : State} {m : MethodId} {args : Array Value} {below : List Frame} {meth : Method} {c : Code} {G : Gl} {N : Nat} {h : Hs} {r : Int32 × Hs}  {t : Nat} {u0 : Int32} (C : Cx p s m args meth c cX12_takes RX12 4 G) (hret : meth.sig.returnType = (some .boolean))  (hf : fX12_takes_b39 N  t h u0 = some r) : V p l e rmX12_takes s m args below meth c G 4 (MQ below (QcG G (some (.inl r.1)) r.2) args s rmX12_takes.cells rmX12_takes.slots (AG G)) h 0 0 39 [some (.inr (some t)), none, none, none] [.inl u0] := by
  unfold fX12_takes_b39 at hf
  refine r_istore_n C dX12_takes_39 (by decide) ?_
  refine r_iload_n C dX12_takes_40 rfl ?_
  refine r_if_eq (tgt := 54) C dX12_takes_41 (by decide) (fun hc => ?_) (fun hc => ?_)
  · have hf := ifT hf hc
    exact V.sub (wX12_takes_b54 C hret hf) (LW_s rfl (LW_n (LW_s rfl (LW_n (LW_e)))))
  · have hf := ifF hf hc
    refine r_aload_n C dX12_takes_44 rfl ?_
    refine r_dup C dX12_takes_45 ?_
    obtain ⟨v1, ev1, hf⟩ := bS hf
    refine r_getI C dX12_takes_46 fl_X12_249 rfl ev1 ?_
    refine r_iconst (v := 1) C dX12_takes_49 (by decide) ?_
    refine r_iadd C dX12_takes_50 ?_
    obtain ⟨h2, eh2, hf⟩ := bS hf
    refine r_putI C dX12_takes_51 fl_X12_249 (Or.inl fn_12_38) rfl eh2 ?_
    exact V.sub (wX12_takes_b54 C hret hf) (LW_s rfl (LW_n (LW_s rfl (LW_n (LW_e)))))
noncomputable def fX12_takes_b38 (N : Nat)  (t : Nat) (h : Hs)  : Option (Int32 × Hs) :=
  fX12_takes_b39 N t h 0
set_option maxHeartbeats 4000000 in
set_option maxRecDepth 20000 in
theorem wX12_takes_b38 {p : Program} {l : Launch} {e : Env} {s : State} {m : MethodId} {args : Array Value} {below : List Frame} {meth : Method} {c : Code} {G : Gl} {N : Nat} {h : Hs} {r : Int32 × Hs}  {t : Nat}  (C : Cx p s m args meth c cX12_takes RX12 4 G) (hret : meth.sig.returnType = (some .boolean))  (hf : fX12_takes_b38 N  t h  = some r) : V p l e rmX12_takes s m args below meth c G 4 (MQ below (QcG G (some (.inl r.1)) r.2) args s rmX12_takes.cells rmX12_takes.slots (AG G)) h 0 0 38 [some (.inr (some t)), none, none, none] [] := by
  unfold fX12_takes_b38 at hf
  refine r_iconst (v := 0) C dX12_takes_38 (by decide) ?_
  exact V.sub (wX12_takes_b39 C hret hf) (LW_s rfl (LW_n (LW_n (LW_n (LW_e)))))
noncomputable def fX12_takes (N : Nat) (h : Hs) (t : Nat) (p1 : Int32) : Option (Int32 × Hs) :=
  (rc 12 h (some t)).bind fun a2 =>
  (fX12_look N h a2 ).bind fun r1 =>
  if r1.1 = 32 then (
  (oI 12 38 r1.2 (some t)).bind fun v3 =>
  (qI 12 38 r1.2 (some t) (v3 + 1)).bind fun h4 =>
  if p1 = 0 then (
  fX12_takes_b38 N t h4)
  else (rc 12 h4 (some t)).bind fun a6 =>
  (fX12_look N h4 a6 ).bind fun r5 =>
  if r5.1 = 45 then (
  fX12_takes_b39 N t r5.2 1)
  else fX12_takes_b38 N t r5.2)
  else some (0, r1.2)
set_option maxHeartbeats 4000000 in
set_option maxRecDepth 20000 in
theorem kX12_takes (l : Launch) (G : Gl) {N : Nat} {h : Hs} {t : Nat} {p1 : Int32} {r : Int32 × Hs} (hf : fX12_takes N h t p1 = some r) : CT l G yX12_takes cX12_takes 4 (some .boolean) rmX12_takes [.inr (some t), .inl p1] h (some (.inl r.1)) r.2 := by
  refine mk_CT (by decide) (Nat.le_of_ble_eq_true rfl) ?_
  intro p e s m args below meth c C hret hin
  unfold fX12_takes at hf
  refine r_aload_n C dX12_takes_0 rfl ?_
  obtain ⟨a2, ea2, hf⟩ := bS hf
  obtain ⟨r1, er1, hf⟩ := bS hf
  refine r_invV1 (As := []) (ci := 12) C dX12_takes_1 mcX12_look wd_1353 wd_1355 wp_49 rfl rfl (by decide) ⟨by decide, by decide⟩ ⟨by decide, by decide⟩ rfl (Nat.le_of_ble_eq_true rfl) ea2 (kX12_look l G er1) ?_
  refine r_bipush (v := 32) C dX12_takes_4 (by decide) ?_
  refine r_icmp_eq (tgt := 11) C dX12_takes_6 (by decide) (fun hc => ?_) (fun hc => ?_)
  · have hf := ifT hf hc
    refine r_aload_n C dX12_takes_11 rfl ?_
    refine r_dup C dX12_takes_12 ?_
    obtain ⟨v3, ev3, hf⟩ := bS hf
    refine r_getI C dX12_takes_13 fl_X12_249 rfl ev3 ?_
    refine r_iconst (v := 1) C dX12_takes_16 (by decide) ?_
    refine r_iadd C dX12_takes_17 ?_
    obtain ⟨h4, eh4, hf⟩ := bS hf
    refine r_putI C dX12_takes_18 fl_X12_249 (Or.inl fn_12_38) rfl eh4 ?_
    refine r_iload_n C dX12_takes_21 rfl ?_
    refine r_if_eq (tgt := 38) C dX12_takes_22 (by decide) (fun hc => ?_) (fun hc => ?_)
    · have hf := ifT hf hc
      exact V.sub (wX12_takes_b38 C hret hf) (LW_s rfl (LW_n (LW_n (LW_n (LW_e)))))
    · have hf := ifF hf hc
      refine r_aload_n C dX12_takes_25 rfl ?_
      obtain ⟨a6, ea6, hf⟩ := bS hf
      obtain ⟨r5, er5, hf⟩ := bS hf
      refine r_invV1 (As := []) (ci := 12) C dX12_takes_26 mcX12_look wd_1353 wd_1355 wp_49 rfl rfl (by decide) ⟨by decide, by decide⟩ ⟨by decide, by decide⟩ rfl (Nat.le_of_ble_eq_true rfl) ea6 (kX12_look l G er5) ?_
      refine r_bipush (v := 45) C dX12_takes_29 (by decide) ?_
      refine r_icmp_ne (tgt := 38) C dX12_takes_31 (by decide) (fun hc => ?_) (fun hc => ?_)
      · have hf := ifF hf hc
        exact V.sub (wX12_takes_b38 C hret hf) (LW_s rfl (LW_n (LW_n (LW_n (LW_e)))))
      · have hf := ifT hf hc
        refine r_iconst (v := 1) C dX12_takes_34 (by decide) ?_
        refine r_goto (tgt := 39) C dX12_takes_35 (by decide) ?_
        exact V.sub (wX12_takes_b39 C hret hf) (LW_s rfl (LW_n (LW_n (LW_n (LW_e)))))
  · have hf := ifF hf hc
    refine r_iconst (v := 0) C dX12_takes_9 (by decide) ?_
    exact r_zretF C dX12_takes_10 hret (z := 0) rfl hf (by decide) (by decide)

theorem dgX12_line_0 : (decode cX12_line 0 = .ok (.aload_n 0, 1)) ∧ (decode cX12_line 1 = .ok (.invokevirtual 252, 3)) ∧ (decode cX12_line 4 = .ok (.istore_n 1, 1)) ∧ (decode cX12_line 5 = .ok (.iload_n 1, 1)) ∧ (decode cX12_line 6 = .ok (.bipush 116, 2)) ∧ (decode cX12_line 8 = .ok (.if_icmp .eq 23, 3)) ∧ (decode cX12_line 11 = .ok (.iload_n 1, 1)) ∧ (decode cX12_line 12 = .ok (.bipush 117, 2)) ∧ (decode cX12_line 14 = .ok (.if_icmp .eq 17, 3)) ∧ (decode cX12_line 17 = .ok (.iload_n 1, 1)) ∧ (decode cX12_line 18 = .ok (.bipush 115, 2)) ∧ (decode cX12_line 20 = .ok (.if_icmp .eq 11, 3)) ∧ True := dkW [(0, .aload_n 0, 1), (1, .invokevirtual 252, 3), (4, .istore_n 1, 1), (5, .iload_n 1, 1), (6, .bipush 116, 2), (8, .if_icmp .eq 23, 3), (11, .iload_n 1, 1), (12, .bipush 117, 2), (14, .if_icmp .eq 17, 3), (17, .iload_n 1, 1), (18, .bipush 115, 2), (20, .if_icmp .eq 11, 3)] 0 (by decide +kernel)
theorem dX12_line_0 : decode cX12_line 0 = .ok (.aload_n 0, 1) := dgX12_line_0.1
theorem dX12_line_1 : decode cX12_line 1 = .ok (.invokevirtual 252, 3) := dgX12_line_0.2.1
theorem dX12_line_4 : decode cX12_line 4 = .ok (.istore_n 1, 1) := dgX12_line_0.2.2.1
theorem dX12_line_5 : decode cX12_line 5 = .ok (.iload_n 1, 1) := dgX12_line_0.2.2.2.1
theorem dX12_line_6 : decode cX12_line 6 = .ok (.bipush 116, 2) := dgX12_line_0.2.2.2.2.1
theorem dX12_line_8 : decode cX12_line 8 = .ok (.if_icmp .eq 23, 3) := dgX12_line_0.2.2.2.2.2.1
theorem dX12_line_11 : decode cX12_line 11 = .ok (.iload_n 1, 1) := dgX12_line_0.2.2.2.2.2.2.1
theorem dX12_line_12 : decode cX12_line 12 = .ok (.bipush 117, 2) := dgX12_line_0.2.2.2.2.2.2.2.1
theorem dX12_line_14 : decode cX12_line 14 = .ok (.if_icmp .eq 17, 3) := dgX12_line_0.2.2.2.2.2.2.2.2.1
theorem dX12_line_17 : decode cX12_line 17 = .ok (.iload_n 1, 1) := dgX12_line_0.2.2.2.2.2.2.2.2.2.1
theorem dX12_line_18 : decode cX12_line 18 = .ok (.bipush 115, 2) := dgX12_line_0.2.2.2.2.2.2.2.2.2.2.1
theorem dX12_line_20 : decode cX12_line 20 = .ok (.if_icmp .eq 11, 3) := dgX12_line_0.2.2.2.2.2.2.2.2.2.2.2.1
theorem dgX12_line_23 : (decode cX12_line 23 = .ok (.iload_n 1, 1)) ∧ (decode cX12_line 24 = .ok (.bipush 119, 2)) ∧ (decode cX12_line 26 = .ok (.if_icmp .eq 5, 3)) ∧ (decode cX12_line 29 = .ok (.iconst 0, 1)) ∧ (decode cX12_line 30 = .ok (.ireturn, 1)) ∧ (decode cX12_line 31 = .ok (.aload_n 0, 1)) ∧ (decode cX12_line 32 = .ok (.dup, 1)) ∧ (decode cX12_line 33 = .ok (.getfield 249, 3)) ∧ (decode cX12_line 36 = .ok (.iconst 1, 1)) ∧ (decode cX12_line 37 = .ok (.iadd, 1)) ∧ (decode cX12_line 38 = .ok (.putfield 249, 3)) ∧ (decode cX12_line 41 = .ok (.aload_n 0, 1)) ∧ True := dkW [(23, .iload_n 1, 1), (24, .bipush 119, 2), (26, .if_icmp .eq 5, 3), (29, .iconst 0, 1), (30, .ireturn, 1), (31, .aload_n 0, 1), (32, .dup, 1), (33, .getfield 249, 3), (36, .iconst 1, 1), (37, .iadd, 1), (38, .putfield 249, 3), (41, .aload_n 0, 1)] 23 (by decide +kernel)
theorem dX12_line_23 : decode cX12_line 23 = .ok (.iload_n 1, 1) := dgX12_line_23.1
theorem dX12_line_24 : decode cX12_line 24 = .ok (.bipush 119, 2) := dgX12_line_23.2.1
theorem dX12_line_26 : decode cX12_line 26 = .ok (.if_icmp .eq 5, 3) := dgX12_line_23.2.2.1
theorem dX12_line_29 : decode cX12_line 29 = .ok (.iconst 0, 1) := dgX12_line_23.2.2.2.1
theorem dX12_line_30 : decode cX12_line 30 = .ok (.ireturn, 1) := dgX12_line_23.2.2.2.2.1
theorem dX12_line_31 : decode cX12_line 31 = .ok (.aload_n 0, 1) := dgX12_line_23.2.2.2.2.2.1
theorem dX12_line_32 : decode cX12_line 32 = .ok (.dup, 1) := dgX12_line_23.2.2.2.2.2.2.1
theorem dX12_line_33 : decode cX12_line 33 = .ok (.getfield 249, 3) := dgX12_line_23.2.2.2.2.2.2.2.1
theorem dX12_line_36 : decode cX12_line 36 = .ok (.iconst 1, 1) := dgX12_line_23.2.2.2.2.2.2.2.2.1
theorem dX12_line_37 : decode cX12_line 37 = .ok (.iadd, 1) := dgX12_line_23.2.2.2.2.2.2.2.2.2.1
theorem dX12_line_38 : decode cX12_line 38 = .ok (.putfield 249, 3) := dgX12_line_23.2.2.2.2.2.2.2.2.2.2.1
theorem dX12_line_41 : decode cX12_line 41 = .ok (.aload_n 0, 1) := dgX12_line_23.2.2.2.2.2.2.2.2.2.2.2.1
theorem dgX12_line_42 : (decode cX12_line 42 = .ok (.getfield 95, 3)) ∧ (decode cX12_line 45 = .ok (.aload_n 0, 1)) ∧ (decode cX12_line 46 = .ok (.getfield 258, 3)) ∧ (decode cX12_line 49 = .ok (.iload_n 1, 1)) ∧ (decode cX12_line 50 = .ok (.iastore, 1)) ∧ (decode cX12_line 51 = .ok (.aload_n 0, 1)) ∧ (decode cX12_line 52 = .ok (.getfield 101, 3)) ∧ (decode cX12_line 55 = .ok (.aload_n 0, 1)) ∧ (decode cX12_line 56 = .ok (.getfield 258, 3)) ∧ (decode cX12_line 59 = .ok (.iconst 0, 1)) ∧ (decode cX12_line 60 = .ok (.iastore, 1)) ∧ (decode cX12_line 61 = .ok (.aload_n 0, 1)) ∧ True := dkW [(42, .getfield 95, 3), (45, .aload_n 0, 1), (46, .getfield 258, 3), (49, .iload_n 1, 1), (50, .iastore, 1), (51, .aload_n 0, 1), (52, .getfield 101, 3), (55, .aload_n 0, 1), (56, .getfield 258, 3), (59, .iconst 0, 1), (60, .iastore, 1), (61, .aload_n 0, 1)] 42 (by decide +kernel)
theorem dX12_line_42 : decode cX12_line 42 = .ok (.getfield 95, 3) := dgX12_line_42.1
theorem dX12_line_45 : decode cX12_line 45 = .ok (.aload_n 0, 1) := dgX12_line_42.2.1
theorem dX12_line_46 : decode cX12_line 46 = .ok (.getfield 258, 3) := dgX12_line_42.2.2.1
theorem dX12_line_49 : decode cX12_line 49 = .ok (.iload_n 1, 1) := dgX12_line_42.2.2.2.1
theorem dX12_line_50 : decode cX12_line 50 = .ok (.iastore, 1) := dgX12_line_42.2.2.2.2.1
theorem dX12_line_51 : decode cX12_line 51 = .ok (.aload_n 0, 1) := dgX12_line_42.2.2.2.2.2.1
theorem dX12_line_52 : decode cX12_line 52 = .ok (.getfield 101, 3) := dgX12_line_42.2.2.2.2.2.2.1
theorem dX12_line_55 : decode cX12_line 55 = .ok (.aload_n 0, 1) := dgX12_line_42.2.2.2.2.2.2.2.1
theorem dX12_line_56 : decode cX12_line 56 = .ok (.getfield 258, 3) := dgX12_line_42.2.2.2.2.2.2.2.2.1
theorem dX12_line_59 : decode cX12_line 59 = .ok (.iconst 0, 1) := dgX12_line_42.2.2.2.2.2.2.2.2.2.1
theorem dX12_line_60 : decode cX12_line 60 = .ok (.iastore, 1) := dgX12_line_42.2.2.2.2.2.2.2.2.2.2.1
theorem dX12_line_61 : decode cX12_line 61 = .ok (.aload_n 0, 1) := dgX12_line_42.2.2.2.2.2.2.2.2.2.2.2.1
theorem dgX12_line_62 : (decode cX12_line 62 = .ok (.iload_n 1, 1)) ∧ (decode cX12_line 63 = .ok (.bipush 115, 2)) ∧ (decode cX12_line 65 = .ok (.if_icmp .ne 7, 3)) ∧ (decode cX12_line 68 = .ok (.iconst 1, 1)) ∧ (decode cX12_line 69 = .ok (.goto 4, 3)) ∧ (decode cX12_line 72 = .ok (.iconst 0, 1)) ∧ (decode cX12_line 73 = .ok (.invokevirtual 261, 3)) ∧ (decode cX12_line 76 = .ok (.ifCond .ne 5, 3)) ∧ (decode cX12_line 79 = .ok (.iconst 0, 1)) ∧ (decode cX12_line 80 = .ok (.ireturn, 1)) ∧ (decode cX12_line 81 = .ok (.aload_n 0, 1)) ∧ (decode cX12_line 82 = .ok (.getfield 98, 3)) ∧ True := dkW [(62, .iload_n 1, 1), (63, .bipush 115, 2), (65, .if_icmp .ne 7, 3), (68, .iconst 1, 1), (69, .goto 4, 3), (72, .iconst 0, 1), (73, .invokevirtual 261, 3), (76, .ifCond .ne 5, 3), (79, .iconst 0, 1), (80, .ireturn, 1), (81, .aload_n 0, 1), (82, .getfield 98, 3)] 62 (by decide +kernel)
theorem dX12_line_62 : decode cX12_line 62 = .ok (.iload_n 1, 1) := dgX12_line_62.1
theorem dX12_line_63 : decode cX12_line 63 = .ok (.bipush 115, 2) := dgX12_line_62.2.1
theorem dX12_line_65 : decode cX12_line 65 = .ok (.if_icmp .ne 7, 3) := dgX12_line_62.2.2.1
theorem dX12_line_68 : decode cX12_line 68 = .ok (.iconst 1, 1) := dgX12_line_62.2.2.2.1
theorem dX12_line_69 : decode cX12_line 69 = .ok (.goto 4, 3) := dgX12_line_62.2.2.2.2.1
theorem dX12_line_72 : decode cX12_line 72 = .ok (.iconst 0, 1) := dgX12_line_62.2.2.2.2.2.1
theorem dX12_line_73 : decode cX12_line 73 = .ok (.invokevirtual 261, 3) := dgX12_line_62.2.2.2.2.2.2.1
theorem dX12_line_76 : decode cX12_line 76 = .ok (.ifCond .ne 5, 3) := dgX12_line_62.2.2.2.2.2.2.2.1
theorem dX12_line_79 : decode cX12_line 79 = .ok (.iconst 0, 1) := dgX12_line_62.2.2.2.2.2.2.2.2.1
theorem dX12_line_80 : decode cX12_line 80 = .ok (.ireturn, 1) := dgX12_line_62.2.2.2.2.2.2.2.2.2.1
theorem dX12_line_81 : decode cX12_line 81 = .ok (.aload_n 0, 1) := dgX12_line_62.2.2.2.2.2.2.2.2.2.2.1
theorem dX12_line_82 : decode cX12_line 82 = .ok (.getfield 98, 3) := dgX12_line_62.2.2.2.2.2.2.2.2.2.2.2.1
theorem dgX12_line_85 : (decode cX12_line 85 = .ok (.aload_n 0, 1)) ∧ (decode cX12_line 86 = .ok (.getfield 258, 3)) ∧ (decode cX12_line 89 = .ok (.aload_n 0, 1)) ∧ (decode cX12_line 90 = .ok (.getfield 255, 3)) ∧ (decode cX12_line 93 = .ok (.iastore, 1)) ∧ (decode cX12_line 94 = .ok (.iload_n 1, 1)) ∧ (decode cX12_line 95 = .ok (.bipush 116, 2)) ∧ (decode cX12_line 97 = .ok (.if_icmp .eq 9, 3)) ∧ (decode cX12_line 100 = .ok (.iload_n 1, 1)) ∧ (decode cX12_line 101 = .ok (.bipush 119, 2)) ∧ (decode cX12_line 103 = .ok (.if_icmp .ne 36, 3)) ∧ (decode cX12_line 106 = .ok (.aload_n 0, 1)) ∧ True := dkW [(85, .aload_n 0, 1), (86, .getfield 258, 3), (89, .aload_n 0, 1), (90, .getfield 255, 3), (93, .iastore, 1), (94, .iload_n 1, 1), (95, .bipush 116, 2), (97, .if_icmp .eq 9, 3), (100, .iload_n 1, 1), (101, .bipush 119, 2), (103, .if_icmp .ne 36, 3), (106, .aload_n 0, 1)] 85 (by decide +kernel)
theorem dX12_line_85 : decode cX12_line 85 = .ok (.aload_n 0, 1) := dgX12_line_85.1
theorem dX12_line_86 : decode cX12_line 86 = .ok (.getfield 258, 3) := dgX12_line_85.2.1
theorem dX12_line_89 : decode cX12_line 89 = .ok (.aload_n 0, 1) := dgX12_line_85.2.2.1
theorem dX12_line_90 : decode cX12_line 90 = .ok (.getfield 255, 3) := dgX12_line_85.2.2.2.1
theorem dX12_line_93 : decode cX12_line 93 = .ok (.iastore, 1) := dgX12_line_85.2.2.2.2.1
theorem dX12_line_94 : decode cX12_line 94 = .ok (.iload_n 1, 1) := dgX12_line_85.2.2.2.2.2.1
theorem dX12_line_95 : decode cX12_line 95 = .ok (.bipush 116, 2) := dgX12_line_85.2.2.2.2.2.2.1
theorem dX12_line_97 : decode cX12_line 97 = .ok (.if_icmp .eq 9, 3) := dgX12_line_85.2.2.2.2.2.2.2.1
theorem dX12_line_100 : decode cX12_line 100 = .ok (.iload_n 1, 1) := dgX12_line_85.2.2.2.2.2.2.2.2.1
theorem dX12_line_101 : decode cX12_line 101 = .ok (.bipush 119, 2) := dgX12_line_85.2.2.2.2.2.2.2.2.2.1
theorem dX12_line_103 : decode cX12_line 103 = .ok (.if_icmp .ne 36, 3) := dgX12_line_85.2.2.2.2.2.2.2.2.2.2.1
theorem dX12_line_106 : decode cX12_line 106 = .ok (.aload_n 0, 1) := dgX12_line_85.2.2.2.2.2.2.2.2.2.2.2.1
theorem dgX12_line_107 : (decode cX12_line 107 = .ok (.iload_n 1, 1)) ∧ (decode cX12_line 108 = .ok (.bipush 119, 2)) ∧ (decode cX12_line 110 = .ok (.if_icmp .ne 7, 3)) ∧ (decode cX12_line 113 = .ok (.iconst 1, 1)) ∧ (decode cX12_line 114 = .ok (.goto 4, 3)) ∧ (decode cX12_line 117 = .ok (.iconst 0, 1)) ∧ (decode cX12_line 118 = .ok (.invokevirtual 261, 3)) ∧ (decode cX12_line 121 = .ok (.ifCond .ne 5, 3)) ∧ (decode cX12_line 124 = .ok (.iconst 0, 1)) ∧ (decode cX12_line 125 = .ok (.ireturn, 1)) ∧ (decode cX12_line 126 = .ok (.aload_n 0, 1)) ∧ (decode cX12_line 127 = .ok (.getfield 101, 3)) ∧ True := dkW [(107, .iload_n 1, 1), (108, .bipush 119, 2), (110, .if_icmp .ne 7, 3), (113, .iconst 1, 1), (114, .goto 4, 3), (117, .iconst 0, 1), (118, .invokevirtual 261, 3), (121, .ifCond .ne 5, 3), (124, .iconst 0, 1), (125, .ireturn, 1), (126, .aload_n 0, 1), (127, .getfield 101, 3)] 107 (by decide +kernel)
theorem dX12_line_107 : decode cX12_line 107 = .ok (.iload_n 1, 1) := dgX12_line_107.1
theorem dX12_line_108 : decode cX12_line 108 = .ok (.bipush 119, 2) := dgX12_line_107.2.1
theorem dX12_line_110 : decode cX12_line 110 = .ok (.if_icmp .ne 7, 3) := dgX12_line_107.2.2.1
theorem dX12_line_113 : decode cX12_line 113 = .ok (.iconst 1, 1) := dgX12_line_107.2.2.2.1
theorem dX12_line_114 : decode cX12_line 114 = .ok (.goto 4, 3) := dgX12_line_107.2.2.2.2.1
theorem dX12_line_117 : decode cX12_line 117 = .ok (.iconst 0, 1) := dgX12_line_107.2.2.2.2.2.1
theorem dX12_line_118 : decode cX12_line 118 = .ok (.invokevirtual 261, 3) := dgX12_line_107.2.2.2.2.2.2.1
theorem dX12_line_121 : decode cX12_line 121 = .ok (.ifCond .ne 5, 3) := dgX12_line_107.2.2.2.2.2.2.2.1
theorem dX12_line_124 : decode cX12_line 124 = .ok (.iconst 0, 1) := dgX12_line_107.2.2.2.2.2.2.2.2.1
theorem dX12_line_125 : decode cX12_line 125 = .ok (.ireturn, 1) := dgX12_line_107.2.2.2.2.2.2.2.2.2.1
theorem dX12_line_126 : decode cX12_line 126 = .ok (.aload_n 0, 1) := dgX12_line_107.2.2.2.2.2.2.2.2.2.2.1
theorem dX12_line_127 : decode cX12_line 127 = .ok (.getfield 101, 3) := dgX12_line_107.2.2.2.2.2.2.2.2.2.2.2.1
theorem dgX12_line_130 : (decode cX12_line 130 = .ok (.aload_n 0, 1)) ∧ (decode cX12_line 131 = .ok (.getfield 258, 3)) ∧ (decode cX12_line 134 = .ok (.aload_n 0, 1)) ∧ (decode cX12_line 135 = .ok (.getfield 255, 3)) ∧ (decode cX12_line 138 = .ok (.iastore, 1)) ∧ (decode cX12_line 139 = .ok (.aload_n 0, 1)) ∧ (decode cX12_line 140 = .ok (.invokevirtual 252, 3)) ∧ (decode cX12_line 143 = .ok (.bipush 59, 2)) ∧ (decode cX12_line 145 = .ok (.if_icmp .eq 5, 3)) ∧ (decode cX12_line 148 = .ok (.iconst 0, 1)) ∧ (decode cX12_line 149 = .ok (.ireturn, 1)) ∧ (decode cX12_line 150 = .ok (.aload_n 0, 1)) ∧ True := dkW [(130, .aload_n 0, 1), (131, .getfield 258, 3), (134, .aload_n 0, 1), (135, .getfield 255, 3), (138, .iastore, 1), (139, .aload_n 0, 1), (140, .invokevirtual 252, 3), (143, .bipush 59, 2), (145, .if_icmp .eq 5, 3), (148, .iconst 0, 1), (149, .ireturn, 1), (150, .aload_n 0, 1)] 130 (by decide +kernel)
theorem dX12_line_130 : decode cX12_line 130 = .ok (.aload_n 0, 1) := dgX12_line_130.1
theorem dX12_line_131 : decode cX12_line 131 = .ok (.getfield 258, 3) := dgX12_line_130.2.1
theorem dX12_line_134 : decode cX12_line 134 = .ok (.aload_n 0, 1) := dgX12_line_130.2.2.1
theorem dX12_line_135 : decode cX12_line 135 = .ok (.getfield 255, 3) := dgX12_line_130.2.2.2.1
theorem dX12_line_138 : decode cX12_line 138 = .ok (.iastore, 1) := dgX12_line_130.2.2.2.2.1
theorem dX12_line_139 : decode cX12_line 139 = .ok (.aload_n 0, 1) := dgX12_line_130.2.2.2.2.2.1
theorem dX12_line_140 : decode cX12_line 140 = .ok (.invokevirtual 252, 3) := dgX12_line_130.2.2.2.2.2.2.1
theorem dX12_line_143 : decode cX12_line 143 = .ok (.bipush 59, 2) := dgX12_line_130.2.2.2.2.2.2.2.1
theorem dX12_line_145 : decode cX12_line 145 = .ok (.if_icmp .eq 5, 3) := dgX12_line_130.2.2.2.2.2.2.2.2.1
theorem dX12_line_148 : decode cX12_line 148 = .ok (.iconst 0, 1) := dgX12_line_130.2.2.2.2.2.2.2.2.2.1
theorem dX12_line_149 : decode cX12_line 149 = .ok (.ireturn, 1) := dgX12_line_130.2.2.2.2.2.2.2.2.2.2.1
theorem dX12_line_150 : decode cX12_line 150 = .ok (.aload_n 0, 1) := dgX12_line_130.2.2.2.2.2.2.2.2.2.2.2.1
theorem dgX12_line_151 : (decode cX12_line 151 = .ok (.dup, 1)) ∧ (decode cX12_line 152 = .ok (.getfield 249, 3)) ∧ (decode cX12_line 155 = .ok (.iconst 1, 1)) ∧ (decode cX12_line 156 = .ok (.iadd, 1)) ∧ (decode cX12_line 157 = .ok (.putfield 249, 3)) ∧ (decode cX12_line 160 = .ok (.aload_n 0, 1)) ∧ (decode cX12_line 161 = .ok (.dup, 1)) ∧ (decode cX12_line 162 = .ok (.getfield 258, 3)) ∧ (decode cX12_line 165 = .ok (.iconst 1, 1)) ∧ (decode cX12_line 166 = .ok (.iadd, 1)) ∧ (decode cX12_line 167 = .ok (.putfield 258, 3)) ∧ (decode cX12_line 170 = .ok (.iconst 1, 1)) ∧ True := dkW [(151, .dup, 1), (152, .getfield 249, 3), (155, .iconst 1, 1), (156, .iadd, 1), (157, .putfield 249, 3), (160, .aload_n 0, 1), (161, .dup, 1), (162, .getfield 258, 3), (165, .iconst 1, 1), (166, .iadd, 1), (167, .putfield 258, 3), (170, .iconst 1, 1)] 151 (by decide +kernel)
theorem dX12_line_151 : decode cX12_line 151 = .ok (.dup, 1) := dgX12_line_151.1
theorem dX12_line_152 : decode cX12_line 152 = .ok (.getfield 249, 3) := dgX12_line_151.2.1
theorem dX12_line_155 : decode cX12_line 155 = .ok (.iconst 1, 1) := dgX12_line_151.2.2.1
theorem dX12_line_156 : decode cX12_line 156 = .ok (.iadd, 1) := dgX12_line_151.2.2.2.1
theorem dX12_line_157 : decode cX12_line 157 = .ok (.putfield 249, 3) := dgX12_line_151.2.2.2.2.1
theorem dX12_line_160 : decode cX12_line 160 = .ok (.aload_n 0, 1) := dgX12_line_151.2.2.2.2.2.1
theorem dX12_line_161 : decode cX12_line 161 = .ok (.dup, 1) := dgX12_line_151.2.2.2.2.2.2.1
theorem dX12_line_162 : decode cX12_line 162 = .ok (.getfield 258, 3) := dgX12_line_151.2.2.2.2.2.2.2.1
theorem dX12_line_165 : decode cX12_line 165 = .ok (.iconst 1, 1) := dgX12_line_151.2.2.2.2.2.2.2.2.1
theorem dX12_line_166 : decode cX12_line 166 = .ok (.iadd, 1) := dgX12_line_151.2.2.2.2.2.2.2.2.2.1
theorem dX12_line_167 : decode cX12_line 167 = .ok (.putfield 258, 3) := dgX12_line_151.2.2.2.2.2.2.2.2.2.2.1
theorem dX12_line_170 : decode cX12_line 170 = .ok (.iconst 1, 1) := dgX12_line_151.2.2.2.2.2.2.2.2.2.2.2.1
theorem dgX12_line_171 : (decode cX12_line 171 = .ok (.ireturn, 1)) ∧ True := dkW [(171, .ireturn, 1)] 171 (by decide +kernel)
theorem dX12_line_171 : decode cX12_line 171 = .ok (.ireturn, 1) := dgX12_line_171.1
abbrev rmX12_line : Room := { frames := 2, cells := 0, slots := 0, locals := 45 }
noncomputable def fX12_line_b139 (N : Nat)  (t : Nat) (h : Hs)  : Option (Int32 × Hs) :=
  (rc 12 h (some t)).bind fun a2 =>
  (fX12_look N h a2 ).bind fun r1 =>
  if r1.1 = 59 then (
  (oI 12 38 r1.2 (some t)).bind fun v3 =>
  (qI 12 38 r1.2 (some t) (v3 + 1)).bind fun h4 =>
  (oI 12 39 h4 (some t)).bind fun v5 =>
  (qI 12 39 h4 (some t) (v5 + 1)).bind fun h6 =>
  some (1, h6))
  else some (0, r1.2)
set_option maxHeartbeats 4000000 in
set_option maxRecDepth 20000 in
theorem wX12_line_b139 {p : Program} {l : Launch} {e : Env} {s : State} {m : MethodId} {args : Array Value} {below : List Frame} {meth : Method} {c : Code} {G : Gl} {N : Nat} {h : Hs} {r : Int32 × Hs}  {t : Nat}  (C : Cx p s m args meth c cX12_line RX12 2 G) (hret : meth.sig.returnType = (some .boolean))  (hf : fX12_line_b139 N  t h  = some r) : V p l e rmX12_line s m args below meth c G 2 (MQ below (QcG G (some (.inl r.1)) r.2) args s rmX12_line.cells rmX12_line.slots (AG G)) h 0 0 139 [some (.inr (some t)), none] [] := by
  unfold fX12_line_b139 at hf
  refine r_aload_n C dX12_line_139 rfl ?_
  obtain ⟨a2, ea2, hf⟩ := bS hf
  obtain ⟨r1, er1, hf⟩ := bS hf
  refine r_invV1 (As := []) (ci := 12) C dX12_line_140 mcX12_look wd_1353 wd_1355 wp_49 rfl rfl (by decide) ⟨by decide, by decide⟩ ⟨by decide, by decide⟩ rfl (Nat.le_of_ble_eq_true rfl) ea2 (kX12_look l G er1) ?_
  refine r_bipush (v := 59) C dX12_line_143 (by decide) ?_
  refine r_icmp_eq (tgt := 150) C dX12_line_145 (by decide) (fun hc => ?_) (fun hc => ?_)
  · have hf := ifT hf hc
    refine r_aload_n C dX12_line_150 rfl ?_
    refine r_dup C dX12_line_151 ?_
    obtain ⟨v3, ev3, hf⟩ := bS hf
    refine r_getI C dX12_line_152 fl_X12_249 rfl ev3 ?_
    refine r_iconst (v := 1) C dX12_line_155 (by decide) ?_
    refine r_iadd C dX12_line_156 ?_
    obtain ⟨h4, eh4, hf⟩ := bS hf
    refine r_putI C dX12_line_157 fl_X12_249 (Or.inl fn_12_38) rfl eh4 ?_
    refine r_aload_n C dX12_line_160 rfl ?_
    refine r_dup C dX12_line_161 ?_
    obtain ⟨v5, ev5, hf⟩ := bS hf
    refine r_getI C dX12_line_162 fl_X12_258 rfl ev5 ?_
    refine r_iconst (v := 1) C dX12_line_165 (by decide) ?_
    refine r_iadd C dX12_line_166 ?_
    obtain ⟨h6, eh6, hf⟩ := bS hf
    refine r_putI C dX12_line_167 fl_X12_258 (Or.inl fn_12_39) rfl eh6 ?_
    refine r_iconst (v := 1) C dX12_line_170 (by decide) ?_
    exact r_zretF C dX12_line_171 hret (z := 1) rfl hf (by decide) (by decide)
  · have hf := ifF hf hc
    refine r_iconst (v := 0) C dX12_line_148 (by decide) ?_
    exact r_zretF C dX12_line_149 hret (z := 0) rfl hf (by decide) (by decide)
noncomputable def fX12_line_b118 (N : Nat)  (t : Nat) (h : Hs) (q0 : Option Nat) (u1 : Int32) : Option (Int32 × Hs) :=
  (rc 12 h q0).bind fun a2 =>
  (fX12_takes N h a2 u1).bind fun r1 =>
  if r1.1 = 0 then (
  some (0, r1.2))
  else (oR 12 42 r1.2 (some t)).bind fun o3 =>
  (oI 12 39 r1.2 (some t)).bind fun v4 =>
  (oI 12 51 r1.2 (some t)).bind fun v5 =>
  (sA r1.2 o3 v4 v5).bind fun h6 =>
  fX12_line_b139 N t h6
set_option maxHeartbeats 4000000 in
set_option maxRecDepth 20000 in
theorem wX12_line_b118 {p : Program} {l : Launch} {e : Env} {s : State} {m : MethodId} {args : Array Value} {below : List Frame} {meth : Method} {c : Code} {G : Gl} {N : Nat} {h : Hs} {r : Int32 × Hs}  {t : Nat} {q0 : Option Nat} {u1 : Int32} (C : Cx p s m args meth c cX12_line RX12 2 G) (hret : meth.sig.returnType = (some .boolean))  (hf : fX12_line_b118 N  t h q0 u1 = some r) : V p l e rmX12_line s m args below meth c G 2 (MQ below (QcG G (some (.inl r.1)) r.2) args s rmX12_line.cells rmX12_line.slots (AG G)) h 0 0 118 [some (.inr (some t)), none] [.inl u1, .inr q0] := by
  unfold fX12_line_b118 at hf
  obtain ⟨a2, ea2, hf⟩ := bS hf
  obtain ⟨r1, er1, hf⟩ := bS hf
  refine r_invV1 (As := [.inl u1]) (ci := 12) C dX12_line_118 mcX12_takes wd_1357 wd_1359 wp_50 rfl rfl (by decide) ⟨by decide, by decide⟩ ⟨by decide, by decide⟩ rfl (Nat.le_of_ble_eq_true rfl) ea2 (kX12_takes l G er1) ?_
  refine r_if_ne (tgt := 126) C dX12_line_121 (by decide) (fun hc => ?_) (fun hc => ?_)
  · have hf := ifF hf hc
    refine r_aload_n C dX12_line_126 rfl ?_
    obtain ⟨o3, eo3, hf⟩ := bS hf
    refine r_getR C dX12_line_127 fl_X12_101 rfl eo3 ?_
    refine r_aload_n C dX12_line_130 rfl ?_
    obtain ⟨v4, ev4, hf⟩ := bS hf
    refine r_getI C dX12_line_131 fl_X12_258 rfl ev4 ?_
    refine r_aload_n C dX12_line_134 rfl ?_
    obtain ⟨v5, ev5, hf⟩ := bS hf
    refine r_getI C dX12_line_135 fl_X12_255 rfl ev5 ?_
    obtain ⟨h6, eh6, hf⟩ := bS hf
    refine r_iast C dX12_line_138 eh6 ?_
    exact V.sub (wX12_line_b139 C hret hf) (LW_s rfl (LW_n (LW_e)))
  · have hf := ifT hf hc
    refine r_iconst (v := 0) C dX12_line_124 (by decide) ?_
    exact r_zretF C dX12_line_125 hret (z := 0) rfl hf (by decide) (by decide)
noncomputable def fX12_line_b106 (N : Nat)  (t : Nat) (h : Hs) (x1 : Int32) : Option (Int32 × Hs) :=
  if x1 = 119 then (
  fX12_line_b118 N t h (some t) 1)
  else fX12_line_b118 N t h (some t) 0
set_option maxHeartbeats 4000000 in
set_option maxRecDepth 20000 in
theorem wX12_line_b106 {p : Program} {l : Launch} {e : Env} {s : State} {m : MethodId} {args : Array Value} {below : List Frame} {meth : Method} {c : Code} {G : Gl} {N : Nat} {h : Hs} {r : Int32 × Hs}  {t : Nat} {x1 : Int32} (C : Cx p s m args meth c cX12_line RX12 2 G) (hret : meth.sig.returnType = (some .boolean))  (hf : fX12_line_b106 N  t h x1 = some r) : V p l e rmX12_line s m args below meth c G 2 (MQ below (QcG G (some (.inl r.1)) r.2) args s rmX12_line.cells rmX12_line.slots (AG G)) h 0 0 106 [some (.inr (some t)), some (.inl x1)] [] := by
  unfold fX12_line_b106 at hf
  refine r_aload_n C dX12_line_106 rfl ?_
  refine r_iload_n C dX12_line_107 rfl ?_
  refine r_bipush (v := 119) C dX12_line_108 (by decide) ?_
  refine r_icmp_ne (tgt := 117) C dX12_line_110 (by decide) (fun hc => ?_) (fun hc => ?_)
  · have hf := ifF hf hc
    refine r_iconst (v := 0) C dX12_line_117 (by decide) ?_
    exact V.sub (wX12_line_b118 C hret hf) (LW_s rfl (LW_n (LW_e)))
  · have hf := ifT hf hc
    refine r_iconst (v := 1) C dX12_line_113 (by decide) ?_
    refine r_goto (tgt := 118) C dX12_line_114 (by decide) ?_
    exact V.sub (wX12_line_b118 C hret hf) (LW_s rfl (LW_n (LW_e)))
noncomputable def fX12_line_b73 (N : Nat)  (t : Nat) (h : Hs) (x1 : Int32) (q0 : Option Nat) (u1 : Int32) : Option (Int32 × Hs) :=
  (rc 12 h q0).bind fun a2 =>
  (fX12_takes N h a2 u1).bind fun r1 =>
  if r1.1 = 0 then (
  some (0, r1.2))
  else (oR 12 41 r1.2 (some t)).bind fun o3 =>
  (oI 12 39 r1.2 (some t)).bind fun v4 =>
  (oI 12 51 r1.2 (some t)).bind fun v5 =>
  (sA r1.2 o3 v4 v5).bind fun h6 =>
  if x1 = 116 then (
  fX12_line_b106 N t h6 x1)
  else if x1 = 119 then (
  fX12_line_b106 N t h6 x1)
  else fX12_line_b139 N t h6
set_option maxHeartbeats 4000000 in
set_option maxRecDepth 20000 in
theorem wX12_line_b73 {p : Program} {l : Launch} {e : Env} {s : State} {m : MethodId} {args : Array Value} {below : List Frame} {meth : Method} {c : Code} {G : Gl} {N : Nat} {h : Hs} {r : Int32 × Hs}  {t : Nat} {x1 : Int32} {q0 : Option Nat} {u1 : Int32} (C : Cx p s m args meth c cX12_line RX12 2 G) (hret : meth.sig.returnType = (some .boolean))  (hf : fX12_line_b73 N  t h x1 q0 u1 = some r) : V p l e rmX12_line s m args below meth c G 2 (MQ below (QcG G (some (.inl r.1)) r.2) args s rmX12_line.cells rmX12_line.slots (AG G)) h 0 0 73 [some (.inr (some t)), some (.inl x1)] [.inl u1, .inr q0] := by
  unfold fX12_line_b73 at hf
  obtain ⟨a2, ea2, hf⟩ := bS hf
  obtain ⟨r1, er1, hf⟩ := bS hf
  refine r_invV1 (As := [.inl u1]) (ci := 12) C dX12_line_73 mcX12_takes wd_1357 wd_1359 wp_50 rfl rfl (by decide) ⟨by decide, by decide⟩ ⟨by decide, by decide⟩ rfl (Nat.le_of_ble_eq_true rfl) ea2 (kX12_takes l G er1) ?_
  refine r_if_ne (tgt := 81) C dX12_line_76 (by decide) (fun hc => ?_) (fun hc => ?_)
  · have hf := ifF hf hc
    refine r_aload_n C dX12_line_81 rfl ?_
    obtain ⟨o3, eo3, hf⟩ := bS hf
    refine r_getR C dX12_line_82 fl_X12_98 rfl eo3 ?_
    refine r_aload_n C dX12_line_85 rfl ?_
    obtain ⟨v4, ev4, hf⟩ := bS hf
    refine r_getI C dX12_line_86 fl_X12_258 rfl ev4 ?_
    refine r_aload_n C dX12_line_89 rfl ?_
    obtain ⟨v5, ev5, hf⟩ := bS hf
    refine r_getI C dX12_line_90 fl_X12_255 rfl ev5 ?_
    obtain ⟨h6, eh6, hf⟩ := bS hf
    refine r_iast C dX12_line_93 eh6 ?_
    refine r_iload_n C dX12_line_94 rfl ?_
    refine r_bipush (v := 116) C dX12_line_95 (by decide) ?_
    refine r_icmp_eq (tgt := 106) C dX12_line_97 (by decide) (fun hc => ?_) (fun hc => ?_)
    · have hf := ifT hf hc
      exact V.sub (wX12_line_b106 C hret hf) (LW_s rfl (LW_s rfl (LW_e)))
    · have hf := ifF hf hc
      refine r_iload_n C dX12_line_100 rfl ?_
      refine r_bipush (v := 119) C dX12_line_101 (by decide) ?_
      refine r_icmp_ne (tgt := 139) C dX12_line_103 (by decide) (fun hc => ?_) (fun hc => ?_)
      · have hf := ifF hf hc
        exact V.sub (wX12_line_b139 C hret hf) (LW_s rfl (LW_n (LW_e)))
      · have hf := ifT hf hc
        exact V.sub (wX12_line_b106 C hret hf) (LW_s rfl (LW_s rfl (LW_e)))
  · have hf := ifT hf hc
    refine r_iconst (v := 0) C dX12_line_79 (by decide) ?_
    exact r_zretF C dX12_line_80 hret (z := 0) rfl hf (by decide) (by decide)
noncomputable def fX12_line_b31 (N : Nat)  (t : Nat) (h : Hs) (x1 : Int32) : Option (Int32 × Hs) :=
  (oI 12 38 h (some t)).bind fun v1 =>
  (qI 12 38 h (some t) (v1 + 1)).bind fun h2 =>
  (oR 12 40 h2 (some t)).bind fun o3 =>
  (oI 12 39 h2 (some t)).bind fun v4 =>
  (sA h2 o3 v4 x1).bind fun h5 =>
  (oR 12 42 h5 (some t)).bind fun o6 =>
  (oI 12 39 h5 (some t)).bind fun v7 =>
  (sA h5 o6 v7 0).bind fun h8 =>
  if x1 = 115 then (
  fX12_line_b73 N t h8 x1 (some t) 1)
  else fX12_line_b73 N t h8 x1 (some t) 0
set_option maxHeartbeats 4000000 in
set_option maxRecDepth 20000 in
theorem wX12_line_b31 {p : Program} {l : Launch} {e : Env} {s : State} {m : MethodId} {args : Array Value} {below : List Frame} {meth : Method} {c : Code} {G : Gl} {N : Nat} {h : Hs} {r : Int32 × Hs}  {t : Nat} {x1 : Int32} (C : Cx p s m args meth c cX12_line RX12 2 G) (hret : meth.sig.returnType = (some .boolean))  (hf : fX12_line_b31 N  t h x1 = some r) : V p l e rmX12_line s m args below meth c G 2 (MQ below (QcG G (some (.inl r.1)) r.2) args s rmX12_line.cells rmX12_line.slots (AG G)) h 0 0 31 [some (.inr (some t)), some (.inl x1)] [] := by
  unfold fX12_line_b31 at hf
  refine r_aload_n C dX12_line_31 rfl ?_
  refine r_dup C dX12_line_32 ?_
  obtain ⟨v1, ev1, hf⟩ := bS hf
  refine r_getI C dX12_line_33 fl_X12_249 rfl ev1 ?_
  refine r_iconst (v := 1) C dX12_line_36 (by decide) ?_
  refine r_iadd C dX12_line_37 ?_
  obtain ⟨h2, eh2, hf⟩ := bS hf
  refine r_putI C dX12_line_38 fl_X12_249 (Or.inl fn_12_38) rfl eh2 ?_
  refine r_aload_n C dX12_line_41 rfl ?_
  obtain ⟨o3, eo3, hf⟩ := bS hf
  refine r_getR C dX12_line_42 fl_X12_95 rfl eo3 ?_
  refine r_aload_n C dX12_line_45 rfl ?_
  obtain ⟨v4, ev4, hf⟩ := bS hf
  refine r_getI C dX12_line_46 fl_X12_258 rfl ev4 ?_
  refine r_iload_n C dX12_line_49 rfl ?_
  obtain ⟨h5, eh5, hf⟩ := bS hf
  refine r_iast C dX12_line_50 eh5 ?_
  refine r_aload_n C dX12_line_51 rfl ?_
  obtain ⟨o6, eo6, hf⟩ := bS hf
  refine r_getR C dX12_line_52 fl_X12_101 rfl eo6 ?_
  refine r_aload_n C dX12_line_55 rfl ?_
  obtain ⟨v7, ev7, hf⟩ := bS hf
  refine r_getI C dX12_line_56 fl_X12_258 rfl ev7 ?_
  refine r_iconst (v := 0) C dX12_line_59 (by decide) ?_
  obtain ⟨h8, eh8, hf⟩ := bS hf
  refine r_iast C dX12_line_60 eh8 ?_
  refine r_aload_n C dX12_line_61 rfl ?_
  refine r_iload_n C dX12_line_62 rfl ?_
  refine r_bipush (v := 115) C dX12_line_63 (by decide) ?_
  refine r_icmp_ne (tgt := 72) C dX12_line_65 (by decide) (fun hc => ?_) (fun hc => ?_)
  · have hf := ifF hf hc
    refine r_iconst (v := 0) C dX12_line_72 (by decide) ?_
    exact V.sub (wX12_line_b73 C hret hf) (LW_s rfl (LW_s rfl (LW_e)))
  · have hf := ifT hf hc
    refine r_iconst (v := 1) C dX12_line_68 (by decide) ?_
    refine r_goto (tgt := 73) C dX12_line_69 (by decide) ?_
    exact V.sub (wX12_line_b73 C hret hf) (LW_s rfl (LW_s rfl (LW_e)))
noncomputable def fX12_line (N : Nat) (h : Hs) (t : Nat)  : Option (Int32 × Hs) :=
  (rc 12 h (some t)).bind fun a2 =>
  (fX12_look N h a2 ).bind fun r1 =>
  if r1.1 = 116 then (
  fX12_line_b31 N t r1.2 r1.1)
  else if r1.1 = 117 then (
  fX12_line_b31 N t r1.2 r1.1)
  else if r1.1 = 115 then (
  fX12_line_b31 N t r1.2 r1.1)
  else if r1.1 = 119 then (
  fX12_line_b31 N t r1.2 r1.1)
  else some (0, r1.2)
set_option maxHeartbeats 4000000 in
set_option maxRecDepth 20000 in
theorem kX12_line (l : Launch) (G : Gl) {N : Nat} {h : Hs} {t : Nat}  {r : Int32 × Hs} (hf : fX12_line N h t  = some r) : CT l G yX12_line cX12_line 2 (some .boolean) rmX12_line [.inr (some t)] h (some (.inl r.1)) r.2 := by
  refine mk_CT (by decide) (Nat.le_of_ble_eq_true rfl) ?_
  intro p e s m args below meth c C hret hin
  unfold fX12_line at hf
  refine r_aload_n C dX12_line_0 rfl ?_
  obtain ⟨a2, ea2, hf⟩ := bS hf
  obtain ⟨r1, er1, hf⟩ := bS hf
  refine r_invV1 (As := []) (ci := 12) C dX12_line_1 mcX12_look wd_1353 wd_1355 wp_49 rfl rfl (by decide) ⟨by decide, by decide⟩ ⟨by decide, by decide⟩ rfl (Nat.le_of_ble_eq_true rfl) ea2 (kX12_look l G er1) ?_
  refine r_istore_n C dX12_line_4 (by decide) ?_
  refine r_iload_n C dX12_line_5 rfl ?_
  refine r_bipush (v := 116) C dX12_line_6 (by decide) ?_
  refine r_icmp_eq (tgt := 31) C dX12_line_8 (by decide) (fun hc => ?_) (fun hc => ?_)
  · have hf := ifT hf hc
    exact V.sub (wX12_line_b31 C hret hf) (LW_s rfl (LW_s rfl (LW_e)))
  · have hf := ifF hf hc
    refine r_iload_n C dX12_line_11 rfl ?_
    refine r_bipush (v := 117) C dX12_line_12 (by decide) ?_
    refine r_icmp_eq (tgt := 31) C dX12_line_14 (by decide) (fun hc => ?_) (fun hc => ?_)
    · have hf := ifT hf hc
      exact V.sub (wX12_line_b31 C hret hf) (LW_s rfl (LW_s rfl (LW_e)))
    · have hf := ifF hf hc
      refine r_iload_n C dX12_line_17 rfl ?_
      refine r_bipush (v := 115) C dX12_line_18 (by decide) ?_
      refine r_icmp_eq (tgt := 31) C dX12_line_20 (by decide) (fun hc => ?_) (fun hc => ?_)
      · have hf := ifT hf hc
        exact V.sub (wX12_line_b31 C hret hf) (LW_s rfl (LW_s rfl (LW_e)))
      · have hf := ifF hf hc
        refine r_iload_n C dX12_line_23 rfl ?_
        refine r_bipush (v := 119) C dX12_line_24 (by decide) ?_
        refine r_icmp_eq (tgt := 31) C dX12_line_26 (by decide) (fun hc => ?_) (fun hc => ?_)
        · have hf := ifT hf hc
          exact V.sub (wX12_line_b31 C hret hf) (LW_s rfl (LW_s rfl (LW_e)))
        · have hf := ifF hf hc
          refine r_iconst (v := 0) C dX12_line_29 (by decide) ?_
          exact r_zretF C dX12_line_30 hret (z := 0) rfl hf (by decide) (by decide)

theorem dgX12_keep_0 : (decode cX12_keep 0 = .ok (.iconst 0, 1)) ∧ (decode cX12_keep 1 = .ok (.istore_n 1, 1)) ∧ (decode cX12_keep 2 = .ok (.iload_n 1, 1)) ∧ (decode cX12_keep 3 = .ok (.aload_n 0, 1)) ∧ (decode cX12_keep 4 = .ok (.getfield 146, 3)) ∧ (decode cX12_keep 7 = .ok (.if_icmp .ge 33, 3)) ∧ (decode cX12_keep 10 = .ok (.aload_n 0, 1)) ∧ (decode cX12_keep 11 = .ok (.getfield 104, 3)) ∧ (decode cX12_keep 14 = .ok (.iload_n 1, 1)) ∧ (decode cX12_keep 15 = .ok (.aload_n 0, 1)) ∧ (decode cX12_keep 16 = .ok (.getfield 19, 3)) ∧ (decode cX12_keep 19 = .ok (.iload_n 1, 1)) ∧ True := dkW [(0, .iconst 0, 1), (1, .istore_n 1, 1), (2, .iload_n 1, 1), (3, .aload_n 0, 1), (4, .getfield 146, 3), (7, .if_icmp .ge 33, 3), (10, .aload_n 0, 1), (11, .getfield 104, 3), (14, .iload_n 1, 1), (15, .aload_n 0, 1), (16, .getfield 19, 3), (19, .iload_n 1, 1)] 0 (by decide +kernel)
theorem dX12_keep_0 : decode cX12_keep 0 = .ok (.iconst 0, 1) := dgX12_keep_0.1
theorem dX12_keep_1 : decode cX12_keep 1 = .ok (.istore_n 1, 1) := dgX12_keep_0.2.1
theorem dX12_keep_2 : decode cX12_keep 2 = .ok (.iload_n 1, 1) := dgX12_keep_0.2.2.1
theorem dX12_keep_3 : decode cX12_keep 3 = .ok (.aload_n 0, 1) := dgX12_keep_0.2.2.2.1
theorem dX12_keep_4 : decode cX12_keep 4 = .ok (.getfield 146, 3) := dgX12_keep_0.2.2.2.2.1
theorem dX12_keep_7 : decode cX12_keep 7 = .ok (.if_icmp .ge 33, 3) := dgX12_keep_0.2.2.2.2.2.1
theorem dX12_keep_10 : decode cX12_keep 10 = .ok (.aload_n 0, 1) := dgX12_keep_0.2.2.2.2.2.2.1
theorem dX12_keep_11 : decode cX12_keep 11 = .ok (.getfield 104, 3) := dgX12_keep_0.2.2.2.2.2.2.2.1
theorem dX12_keep_14 : decode cX12_keep 14 = .ok (.iload_n 1, 1) := dgX12_keep_0.2.2.2.2.2.2.2.2.1
theorem dX12_keep_15 : decode cX12_keep 15 = .ok (.aload_n 0, 1) := dgX12_keep_0.2.2.2.2.2.2.2.2.2.1
theorem dX12_keep_16 : decode cX12_keep 16 = .ok (.getfield 19, 3) := dgX12_keep_0.2.2.2.2.2.2.2.2.2.2.1
theorem dX12_keep_19 : decode cX12_keep 19 = .ok (.iload_n 1, 1) := dgX12_keep_0.2.2.2.2.2.2.2.2.2.2.2.1
theorem dgX12_keep_20 : (decode cX12_keep 20 = .ok (.iaload, 1)) ∧ (decode cX12_keep 21 = .ok (.iastore, 1)) ∧ (decode cX12_keep 22 = .ok (.aload_n 0, 1)) ∧ (decode cX12_keep 23 = .ok (.getfield 107, 3)) ∧ (decode cX12_keep 26 = .ok (.iload_n 1, 1)) ∧ (decode cX12_keep 27 = .ok (.aload_n 0, 1)) ∧ (decode cX12_keep 28 = .ok (.getfield 28, 3)) ∧ (decode cX12_keep 31 = .ok (.iload_n 1, 1)) ∧ (decode cX12_keep 32 = .ok (.iaload, 1)) ∧ (decode cX12_keep 33 = .ok (.iastore, 1)) ∧ (decode cX12_keep 34 = .ok (.iinc 1 1, 3)) ∧ (decode cX12_keep 37 = .ok (.goto (-35), 3)) ∧ True := dkW [(20, .iaload, 1), (21, .iastore, 1), (22, .aload_n 0, 1), (23, .getfield 107, 3), (26, .iload_n 1, 1), (27, .aload_n 0, 1), (28, .getfield 28, 3), (31, .iload_n 1, 1), (32, .iaload, 1), (33, .iastore, 1), (34, .iinc 1 1, 3), (37, .goto (-35), 3)] 20 (by decide +kernel)
theorem dX12_keep_20 : decode cX12_keep 20 = .ok (.iaload, 1) := dgX12_keep_20.1
theorem dX12_keep_21 : decode cX12_keep 21 = .ok (.iastore, 1) := dgX12_keep_20.2.1
theorem dX12_keep_22 : decode cX12_keep 22 = .ok (.aload_n 0, 1) := dgX12_keep_20.2.2.1
theorem dX12_keep_23 : decode cX12_keep 23 = .ok (.getfield 107, 3) := dgX12_keep_20.2.2.2.1
theorem dX12_keep_26 : decode cX12_keep 26 = .ok (.iload_n 1, 1) := dgX12_keep_20.2.2.2.2.1
theorem dX12_keep_27 : decode cX12_keep 27 = .ok (.aload_n 0, 1) := dgX12_keep_20.2.2.2.2.2.1
theorem dX12_keep_28 : decode cX12_keep 28 = .ok (.getfield 28, 3) := dgX12_keep_20.2.2.2.2.2.2.1
theorem dX12_keep_31 : decode cX12_keep 31 = .ok (.iload_n 1, 1) := dgX12_keep_20.2.2.2.2.2.2.2.1
theorem dX12_keep_32 : decode cX12_keep 32 = .ok (.iaload, 1) := dgX12_keep_20.2.2.2.2.2.2.2.2.1
theorem dX12_keep_33 : decode cX12_keep 33 = .ok (.iastore, 1) := dgX12_keep_20.2.2.2.2.2.2.2.2.2.1
theorem dX12_keep_34 : decode cX12_keep 34 = .ok (.iinc 1 1, 3) := dgX12_keep_20.2.2.2.2.2.2.2.2.2.2.1
theorem dX12_keep_37 : decode cX12_keep 37 = .ok (.goto (-35), 3) := dgX12_keep_20.2.2.2.2.2.2.2.2.2.2.2.1
theorem dgX12_keep_40 : (decode cX12_keep 40 = .ok (.iconst 0, 1)) ∧ (decode cX12_keep 41 = .ok (.istore_n 1, 1)) ∧ (decode cX12_keep 42 = .ok (.iload_n 1, 1)) ∧ (decode cX12_keep 43 = .ok (.aload_n 0, 1)) ∧ (decode cX12_keep 44 = .ok (.getfield 153, 3)) ∧ (decode cX12_keep 47 = .ok (.if_icmp .ge 33, 3)) ∧ (decode cX12_keep 50 = .ok (.aload_n 0, 1)) ∧ (decode cX12_keep 51 = .ok (.getfield 110, 3)) ∧ (decode cX12_keep 54 = .ok (.iload_n 1, 1)) ∧ (decode cX12_keep 55 = .ok (.aload_n 0, 1)) ∧ (decode cX12_keep 56 = .ok (.getfield 46, 3)) ∧ (decode cX12_keep 59 = .ok (.iload_n 1, 1)) ∧ True := dkW [(40, .iconst 0, 1), (41, .istore_n 1, 1), (42, .iload_n 1, 1), (43, .aload_n 0, 1), (44, .getfield 153, 3), (47, .if_icmp .ge 33, 3), (50, .aload_n 0, 1), (51, .getfield 110, 3), (54, .iload_n 1, 1), (55, .aload_n 0, 1), (56, .getfield 46, 3), (59, .iload_n 1, 1)] 40 (by decide +kernel)
theorem dX12_keep_40 : decode cX12_keep 40 = .ok (.iconst 0, 1) := dgX12_keep_40.1
theorem dX12_keep_41 : decode cX12_keep 41 = .ok (.istore_n 1, 1) := dgX12_keep_40.2.1
theorem dX12_keep_42 : decode cX12_keep 42 = .ok (.iload_n 1, 1) := dgX12_keep_40.2.2.1
theorem dX12_keep_43 : decode cX12_keep 43 = .ok (.aload_n 0, 1) := dgX12_keep_40.2.2.2.1
theorem dX12_keep_44 : decode cX12_keep 44 = .ok (.getfield 153, 3) := dgX12_keep_40.2.2.2.2.1
theorem dX12_keep_47 : decode cX12_keep 47 = .ok (.if_icmp .ge 33, 3) := dgX12_keep_40.2.2.2.2.2.1
theorem dX12_keep_50 : decode cX12_keep 50 = .ok (.aload_n 0, 1) := dgX12_keep_40.2.2.2.2.2.2.1
theorem dX12_keep_51 : decode cX12_keep 51 = .ok (.getfield 110, 3) := dgX12_keep_40.2.2.2.2.2.2.2.1
theorem dX12_keep_54 : decode cX12_keep 54 = .ok (.iload_n 1, 1) := dgX12_keep_40.2.2.2.2.2.2.2.2.1
theorem dX12_keep_55 : decode cX12_keep 55 = .ok (.aload_n 0, 1) := dgX12_keep_40.2.2.2.2.2.2.2.2.2.1
theorem dX12_keep_56 : decode cX12_keep 56 = .ok (.getfield 46, 3) := dgX12_keep_40.2.2.2.2.2.2.2.2.2.2.1
theorem dX12_keep_59 : decode cX12_keep 59 = .ok (.iload_n 1, 1) := dgX12_keep_40.2.2.2.2.2.2.2.2.2.2.2.1
theorem dgX12_keep_60 : (decode cX12_keep 60 = .ok (.iaload, 1)) ∧ (decode cX12_keep 61 = .ok (.iastore, 1)) ∧ (decode cX12_keep 62 = .ok (.aload_n 0, 1)) ∧ (decode cX12_keep 63 = .ok (.getfield 113, 3)) ∧ (decode cX12_keep 66 = .ok (.iload_n 1, 1)) ∧ (decode cX12_keep 67 = .ok (.aload_n 0, 1)) ∧ (decode cX12_keep 68 = .ok (.getfield 49, 3)) ∧ (decode cX12_keep 71 = .ok (.iload_n 1, 1)) ∧ (decode cX12_keep 72 = .ok (.iaload, 1)) ∧ (decode cX12_keep 73 = .ok (.iastore, 1)) ∧ (decode cX12_keep 74 = .ok (.iinc 1 1, 3)) ∧ (decode cX12_keep 77 = .ok (.goto (-35), 3)) ∧ True := dkW [(60, .iaload, 1), (61, .iastore, 1), (62, .aload_n 0, 1), (63, .getfield 113, 3), (66, .iload_n 1, 1), (67, .aload_n 0, 1), (68, .getfield 49, 3), (71, .iload_n 1, 1), (72, .iaload, 1), (73, .iastore, 1), (74, .iinc 1 1, 3), (77, .goto (-35), 3)] 60 (by decide +kernel)
theorem dX12_keep_60 : decode cX12_keep 60 = .ok (.iaload, 1) := dgX12_keep_60.1
theorem dX12_keep_61 : decode cX12_keep 61 = .ok (.iastore, 1) := dgX12_keep_60.2.1
theorem dX12_keep_62 : decode cX12_keep 62 = .ok (.aload_n 0, 1) := dgX12_keep_60.2.2.1
theorem dX12_keep_63 : decode cX12_keep 63 = .ok (.getfield 113, 3) := dgX12_keep_60.2.2.2.1
theorem dX12_keep_66 : decode cX12_keep 66 = .ok (.iload_n 1, 1) := dgX12_keep_60.2.2.2.2.1
theorem dX12_keep_67 : decode cX12_keep 67 = .ok (.aload_n 0, 1) := dgX12_keep_60.2.2.2.2.2.1
theorem dX12_keep_68 : decode cX12_keep 68 = .ok (.getfield 49, 3) := dgX12_keep_60.2.2.2.2.2.2.1
theorem dX12_keep_71 : decode cX12_keep 71 = .ok (.iload_n 1, 1) := dgX12_keep_60.2.2.2.2.2.2.2.1
theorem dX12_keep_72 : decode cX12_keep 72 = .ok (.iaload, 1) := dgX12_keep_60.2.2.2.2.2.2.2.2.1
theorem dX12_keep_73 : decode cX12_keep 73 = .ok (.iastore, 1) := dgX12_keep_60.2.2.2.2.2.2.2.2.2.1
theorem dX12_keep_74 : decode cX12_keep 74 = .ok (.iinc 1 1, 3) := dgX12_keep_60.2.2.2.2.2.2.2.2.2.2.1
theorem dX12_keep_77 : decode cX12_keep 77 = .ok (.goto (-35), 3) := dgX12_keep_60.2.2.2.2.2.2.2.2.2.2.2.1
theorem dgX12_keep_80 : (decode cX12_keep 80 = .ok (.iconst 0, 1)) ∧ (decode cX12_keep 81 = .ok (.istore_n 1, 1)) ∧ (decode cX12_keep 82 = .ok (.iload_n 1, 1)) ∧ (decode cX12_keep 83 = .ok (.bipush 20, 2)) ∧ (decode cX12_keep 85 = .ok (.if_icmp .ge 21, 3)) ∧ (decode cX12_keep 88 = .ok (.aload_n 0, 1)) ∧ (decode cX12_keep 89 = .ok (.getfield 116, 3)) ∧ (decode cX12_keep 92 = .ok (.iload_n 1, 1)) ∧ (decode cX12_keep 93 = .ok (.aload_n 0, 1)) ∧ (decode cX12_keep 94 = .ok (.getfield 56, 3)) ∧ (decode cX12_keep 97 = .ok (.iload_n 1, 1)) ∧ (decode cX12_keep 98 = .ok (.iaload, 1)) ∧ True := dkW [(80, .iconst 0, 1), (81, .istore_n 1, 1), (82, .iload_n 1, 1), (83, .bipush 20, 2), (85, .if_icmp .ge 21, 3), (88, .aload_n 0, 1), (89, .getfield 116, 3), (92, .iload_n 1, 1), (93, .aload_n 0, 1), (94, .getfield 56, 3), (97, .iload_n 1, 1), (98, .iaload, 1)] 80 (by decide +kernel)
theorem dX12_keep_80 : decode cX12_keep 80 = .ok (.iconst 0, 1) := dgX12_keep_80.1
theorem dX12_keep_81 : decode cX12_keep 81 = .ok (.istore_n 1, 1) := dgX12_keep_80.2.1
theorem dX12_keep_82 : decode cX12_keep 82 = .ok (.iload_n 1, 1) := dgX12_keep_80.2.2.1
theorem dX12_keep_83 : decode cX12_keep 83 = .ok (.bipush 20, 2) := dgX12_keep_80.2.2.2.1
theorem dX12_keep_85 : decode cX12_keep 85 = .ok (.if_icmp .ge 21, 3) := dgX12_keep_80.2.2.2.2.1
theorem dX12_keep_88 : decode cX12_keep 88 = .ok (.aload_n 0, 1) := dgX12_keep_80.2.2.2.2.2.1
theorem dX12_keep_89 : decode cX12_keep 89 = .ok (.getfield 116, 3) := dgX12_keep_80.2.2.2.2.2.2.1
theorem dX12_keep_92 : decode cX12_keep 92 = .ok (.iload_n 1, 1) := dgX12_keep_80.2.2.2.2.2.2.2.1
theorem dX12_keep_93 : decode cX12_keep 93 = .ok (.aload_n 0, 1) := dgX12_keep_80.2.2.2.2.2.2.2.2.1
theorem dX12_keep_94 : decode cX12_keep 94 = .ok (.getfield 56, 3) := dgX12_keep_80.2.2.2.2.2.2.2.2.2.1
theorem dX12_keep_97 : decode cX12_keep 97 = .ok (.iload_n 1, 1) := dgX12_keep_80.2.2.2.2.2.2.2.2.2.2.1
theorem dX12_keep_98 : decode cX12_keep 98 = .ok (.iaload, 1) := dgX12_keep_80.2.2.2.2.2.2.2.2.2.2.2.1
theorem dgX12_keep_99 : (decode cX12_keep 99 = .ok (.iastore, 1)) ∧ (decode cX12_keep 100 = .ok (.iinc 1 1, 3)) ∧ (decode cX12_keep 103 = .ok (.goto (-21), 3)) ∧ (decode cX12_keep 106 = .ok (.aload_n 0, 1)) ∧ (decode cX12_keep 107 = .ok (.aload_n 0, 1)) ∧ (decode cX12_keep 108 = .ok (.getfield 211, 3)) ∧ (decode cX12_keep 111 = .ok (.putfield 265, 3)) ∧ (decode cX12_keep 114 = .ok (.aload_n 0, 1)) ∧ (decode cX12_keep 115 = .ok (.aload_n 0, 1)) ∧ (decode cX12_keep 116 = .ok (.getfield 214, 3)) ∧ (decode cX12_keep 119 = .ok (.putfield 268, 3)) ∧ (decode cX12_keep 122 = .ok (.return_, 1)) ∧ True := dkW [(99, .iastore, 1), (100, .iinc 1 1, 3), (103, .goto (-21), 3), (106, .aload_n 0, 1), (107, .aload_n 0, 1), (108, .getfield 211, 3), (111, .putfield 265, 3), (114, .aload_n 0, 1), (115, .aload_n 0, 1), (116, .getfield 214, 3), (119, .putfield 268, 3), (122, .return_, 1)] 99 (by decide +kernel)
theorem dX12_keep_99 : decode cX12_keep 99 = .ok (.iastore, 1) := dgX12_keep_99.1
theorem dX12_keep_100 : decode cX12_keep 100 = .ok (.iinc 1 1, 3) := dgX12_keep_99.2.1
theorem dX12_keep_103 : decode cX12_keep 103 = .ok (.goto (-21), 3) := dgX12_keep_99.2.2.1
theorem dX12_keep_106 : decode cX12_keep 106 = .ok (.aload_n 0, 1) := dgX12_keep_99.2.2.2.1
theorem dX12_keep_107 : decode cX12_keep 107 = .ok (.aload_n 0, 1) := dgX12_keep_99.2.2.2.2.1
theorem dX12_keep_108 : decode cX12_keep 108 = .ok (.getfield 211, 3) := dgX12_keep_99.2.2.2.2.2.1
theorem dX12_keep_111 : decode cX12_keep 111 = .ok (.putfield 265, 3) := dgX12_keep_99.2.2.2.2.2.2.1
theorem dX12_keep_114 : decode cX12_keep 114 = .ok (.aload_n 0, 1) := dgX12_keep_99.2.2.2.2.2.2.2.1
theorem dX12_keep_115 : decode cX12_keep 115 = .ok (.aload_n 0, 1) := dgX12_keep_99.2.2.2.2.2.2.2.2.1
theorem dX12_keep_116 : decode cX12_keep 116 = .ok (.getfield 214, 3) := dgX12_keep_99.2.2.2.2.2.2.2.2.2.1
theorem dX12_keep_119 : decode cX12_keep 119 = .ok (.putfield 268, 3) := dgX12_keep_99.2.2.2.2.2.2.2.2.2.2.1
theorem dX12_keep_122 : decode cX12_keep 122 = .ok (.return_, 1) := dgX12_keep_99.2.2.2.2.2.2.2.2.2.2.2.1
abbrev rmX12_keep : Room := { frames := 0, cells := 0, slots := 0, locals := 0 }
noncomputable def fX12_keep_b82_body (N : Nat)  (g82 : Hs → Int32 → Option (Hs)) (t : Nat) (h : Hs) (x1 : Int32) : Option (Hs) :=
  if 20 ≤ x1 then (
  (oI 12 21 h (some t)).bind fun v1 =>
  (qI 12 49 h (some t) v1).bind fun h2 =>
  (oI 12 22 h2 (some t)).bind fun v3 =>
  (qI 12 50 h2 (some t) v3).bind fun h4 =>
  some h4)
  else (oR 12 48 h (some t)).bind fun o5 =>
  (oR 12 19 h (some t)).bind fun o6 =>
  (lA 20 h o6 x1).bind fun v7 =>
  (sA h o5 x1 v7).bind fun h8 =>
  (some (x1 + 1)).bind fun y9 =>
  g82 h8 y9
noncomputable def fX12_keep_b82 (N : Nat)  (t : Nat) (n : Nat) : Hs → Int32 → Option (Hs) := lp (fun _ _ => none) (fun g h x1 => fX12_keep_b82_body N  g t h x1) n
set_option maxHeartbeats 4000000 in
set_option maxRecDepth 20000 in
theorem wX12_keep_b82_body {p : Program} {l : Launch} {e : Env} {s : State} {m : MethodId} {args : Array Value} {below : List Frame} {meth : Method} {c : Code} {G : Gl} {N : Nat} {h : Hs} {r : Hs}  {g82 : Hs → Int32 → Option (Hs)} {t : Nat} {x1 : Int32} (C : Cx p s m args meth c cX12_keep RX12 2 G) (hret : meth.sig.returnType = none)  (hg82 : ∀ (h : Hs) (x1 : Int32), g82 h x1 = some r → V p l e rmX12_keep s m args below meth c G 2 (MQ below (QcG G (none) r) args s rmX12_keep.cells rmX12_keep.slots (AG G)) h 0 0 82 [some (.inr (some t)), some (.inl x1)] []) (hf : fX12_keep_b82_body N  g82 t h x1 = some r) : V p l e rmX12_keep s m args below meth c G 2 (MQ below (QcG G (none) r) args s rmX12_keep.cells rmX12_keep.slots (AG G)) h 0 0 82 [some (.inr (some t)), some (.inl x1)] [] := by
  unfold fX12_keep_b82_body at hf
  refine r_iload_n C dX12_keep_82 rfl ?_
  refine r_bipush (v := 20) C dX12_keep_83 (by decide) ?_
  refine r_icmp_ge (tgt := 106) C dX12_keep_85 (by decide) (fun hc => ?_) (fun hc => ?_)
  · have hf := ifT hf hc
    refine r_aload_n C dX12_keep_106 rfl ?_
    refine r_aload_n C dX12_keep_107 rfl ?_
    obtain ⟨v1, ev1, hf⟩ := bS hf
    refine r_getI C dX12_keep_108 fl_X12_211 rfl ev1 ?_
    obtain ⟨h2, eh2, hf⟩ := bS hf
    refine r_putI C dX12_keep_111 fl_X12_265 (Or.inl fn_12_49) rfl eh2 ?_
    refine r_aload_n C dX12_keep_114 rfl ?_
    refine r_aload_n C dX12_keep_115 rfl ?_
    obtain ⟨v3, ev3, hf⟩ := bS hf
    refine r_getI C dX12_keep_116 fl_X12_214 rfl ev3 ?_
    obtain ⟨h4, eh4, hf⟩ := bS hf
    refine r_putI C dX12_keep_119 fl_X12_268 (Or.inl fn_12_50) rfl eh4 ?_
    exact r_vretF C dX12_keep_122 hret hf (by decide) (by decide)
  · have hf := ifF hf hc
    refine r_aload_n C dX12_keep_88 rfl ?_
    obtain ⟨o5, eo5, hf⟩ := bS hf
    refine r_getR C dX12_keep_89 fl_X12_116 rfl eo5 ?_
    refine r_iload_n C dX12_keep_92 rfl ?_
    refine r_aload_n C dX12_keep_93 rfl ?_
    obtain ⟨o6, eo6, hf⟩ := bS hf
    refine r_getR C dX12_keep_94 fl_X12_56 rfl eo6 ?_
    refine r_iload_n C dX12_keep_97 rfl ?_
    obtain ⟨v7, ev7, hf⟩ := bS hf
    refine r_iald C dX12_keep_98 ev7 ?_
    obtain ⟨h8, eh8, hf⟩ := bS hf
    refine r_iast C dX12_keep_99 eh8 ?_
    obtain ⟨y9, ey9, hf⟩ := bS hf
    refine r_iincE (v := 1) C dX12_keep_100 rfl (by decide) (by decide) ey9 ?_
    refine r_goto (tgt := 82) C dX12_keep_103 (by decide) ?_
    exact V.sub (hg82 _ _ hf) (LW_s rfl (LW_s rfl (LW_e)))
theorem wX12_keep_b82 {p : Program} {l : Launch} {e : Env} {s : State} {m : MethodId} {args : Array Value} {below : List Frame} {meth : Method} {c : Code} {G : Gl} {N : Nat} {r : Hs}  {t : Nat} (C : Cx p s m args meth c cX12_keep RX12 2 G) (hret : meth.sig.returnType = none)  : ∀ (n : Nat) (h : Hs) (x1 : Int32), fX12_keep_b82 N  t n h x1 = some r → V p l e rmX12_keep s m args below meth c G 2 (MQ below (QcG G (none) r) args s rmX12_keep.cells rmX12_keep.slots (AG G)) h 0 0 82 [some (.inr (some t)), some (.inl x1)] [] := by
  intro n
  induction n with
  | zero => intro h x1 hf; exact absurd (show (none : Option (Hs)) = some r from hf) (fun q => by cases q)
  | succ n ih => intro h x1 hf; exact wX12_keep_b82_body C hret  ih (show fX12_keep_b82_body N  (fX12_keep_b82 N  t n) t h x1 = some r from hf)
noncomputable def fX12_keep_b42_body (N : Nat)  (g42 : Hs → Int32 → Option (Hs)) (t : Nat) (h : Hs) (x1 : Int32) : Option (Hs) :=
  (oI 12 11 h (some t)).bind fun v1 =>
  if v1 ≤ x1 then (
  fX12_keep_b82 N t N h 0)
  else (oR 12 46 h (some t)).bind fun o2 =>
  (oR 12 16 h (some t)).bind fun o3 =>
  (lA 20 h o3 x1).bind fun v4 =>
  (sA h o2 x1 v4).bind fun h5 =>
  (oR 12 47 h5 (some t)).bind fun o6 =>
  (oR 12 17 h5 (some t)).bind fun o7 =>
  (lA 20 h5 o7 x1).bind fun v8 =>
  (sA h5 o6 x1 v8).bind fun h9 =>
  (some (x1 + 1)).bind fun y10 =>
  g42 h9 y10
noncomputable def fX12_keep_b42 (N : Nat)  (t : Nat) (n : Nat) : Hs → Int32 → Option (Hs) := lp (fun _ _ => none) (fun g h x1 => fX12_keep_b42_body N  g t h x1) n
set_option maxHeartbeats 4000000 in
set_option maxRecDepth 20000 in
theorem wX12_keep_b42_body {p : Program} {l : Launch} {e : Env} {s : State} {m : MethodId} {args : Array Value} {below : List Frame} {meth : Method} {c : Code} {G : Gl} {N : Nat} {h : Hs} {r : Hs}  {g42 : Hs → Int32 → Option (Hs)} {t : Nat} {x1 : Int32} (C : Cx p s m args meth c cX12_keep RX12 2 G) (hret : meth.sig.returnType = none)  (hg42 : ∀ (h : Hs) (x1 : Int32), g42 h x1 = some r → V p l e rmX12_keep s m args below meth c G 2 (MQ below (QcG G (none) r) args s rmX12_keep.cells rmX12_keep.slots (AG G)) h 0 0 42 [some (.inr (some t)), some (.inl x1)] []) (hf : fX12_keep_b42_body N  g42 t h x1 = some r) : V p l e rmX12_keep s m args below meth c G 2 (MQ below (QcG G (none) r) args s rmX12_keep.cells rmX12_keep.slots (AG G)) h 0 0 42 [some (.inr (some t)), some (.inl x1)] [] := by
  unfold fX12_keep_b42_body at hf
  refine r_iload_n C dX12_keep_42 rfl ?_
  refine r_aload_n C dX12_keep_43 rfl ?_
  obtain ⟨v1, ev1, hf⟩ := bS hf
  refine r_getI C dX12_keep_44 fl_X12_153 rfl ev1 ?_
  refine r_icmp_ge (tgt := 80) C dX12_keep_47 (by decide) (fun hc => ?_) (fun hc => ?_)
  · have hf := ifT hf hc
    refine r_iconst (v := 0) C dX12_keep_80 (by decide) ?_
    refine r_istore_n C dX12_keep_81 (by decide) ?_
    exact V.sub (wX12_keep_b82 C hret N _ _ hf) (LW_s rfl (LW_s rfl (LW_e)))
  · have hf := ifF hf hc
    refine r_aload_n C dX12_keep_50 rfl ?_
    obtain ⟨o2, eo2, hf⟩ := bS hf
    refine r_getR C dX12_keep_51 fl_X12_110 rfl eo2 ?_
    refine r_iload_n C dX12_keep_54 rfl ?_
    refine r_aload_n C dX12_keep_55 rfl ?_
    obtain ⟨o3, eo3, hf⟩ := bS hf
    refine r_getR C dX12_keep_56 fl_X12_46 rfl eo3 ?_
    refine r_iload_n C dX12_keep_59 rfl ?_
    obtain ⟨v4, ev4, hf⟩ := bS hf
    refine r_iald C dX12_keep_60 ev4 ?_
    obtain ⟨h5, eh5, hf⟩ := bS hf
    refine r_iast C dX12_keep_61 eh5 ?_
    refine r_aload_n C dX12_keep_62 rfl ?_
    obtain ⟨o6, eo6, hf⟩ := bS hf
    refine r_getR C dX12_keep_63 fl_X12_113 rfl eo6 ?_
    refine r_iload_n C dX12_keep_66 rfl ?_
    refine r_aload_n C dX12_keep_67 rfl ?_
    obtain ⟨o7, eo7, hf⟩ := bS hf
    refine r_getR C dX12_keep_68 fl_X12_49 rfl eo7 ?_
    refine r_iload_n C dX12_keep_71 rfl ?_
    obtain ⟨v8, ev8, hf⟩ := bS hf
    refine r_iald C dX12_keep_72 ev8 ?_
    obtain ⟨h9, eh9, hf⟩ := bS hf
    refine r_iast C dX12_keep_73 eh9 ?_
    obtain ⟨y10, ey10, hf⟩ := bS hf
    refine r_iincE (v := 1) C dX12_keep_74 rfl (by decide) (by decide) ey10 ?_
    refine r_goto (tgt := 42) C dX12_keep_77 (by decide) ?_
    exact V.sub (hg42 _ _ hf) (LW_s rfl (LW_s rfl (LW_e)))
theorem wX12_keep_b42 {p : Program} {l : Launch} {e : Env} {s : State} {m : MethodId} {args : Array Value} {below : List Frame} {meth : Method} {c : Code} {G : Gl} {N : Nat} {r : Hs}  {t : Nat} (C : Cx p s m args meth c cX12_keep RX12 2 G) (hret : meth.sig.returnType = none)  : ∀ (n : Nat) (h : Hs) (x1 : Int32), fX12_keep_b42 N  t n h x1 = some r → V p l e rmX12_keep s m args below meth c G 2 (MQ below (QcG G (none) r) args s rmX12_keep.cells rmX12_keep.slots (AG G)) h 0 0 42 [some (.inr (some t)), some (.inl x1)] [] := by
  intro n
  induction n with
  | zero => intro h x1 hf; exact absurd (show (none : Option (Hs)) = some r from hf) (fun q => by cases q)
  | succ n ih => intro h x1 hf; exact wX12_keep_b42_body C hret  ih (show fX12_keep_b42_body N  (fX12_keep_b42 N  t n) t h x1 = some r from hf)
noncomputable def fX12_keep_b2_body (N : Nat)  (g2 : Hs → Int32 → Option (Hs)) (t : Nat) (h : Hs) (x1 : Int32) : Option (Hs) :=
  (oI 12 1 h (some t)).bind fun v1 =>
  if v1 ≤ x1 then (
  fX12_keep_b42 N t N h 0)
  else (oR 12 44 h (some t)).bind fun o2 =>
  (oR 12 5 h (some t)).bind fun o3 =>
  (lA 20 h o3 x1).bind fun v4 =>
  (sA h o2 x1 v4).bind fun h5 =>
  (oR 12 45 h5 (some t)).bind fun o6 =>
  (oR 12 8 h5 (some t)).bind fun o7 =>
  (lA 20 h5 o7 x1).bind fun v8 =>
  (sA h5 o6 x1 v8).bind fun h9 =>
  (some (x1 + 1)).bind fun y10 =>
  g2 h9 y10
noncomputable def fX12_keep_b2 (N : Nat)  (t : Nat) (n : Nat) : Hs → Int32 → Option (Hs) := lp (fun _ _ => none) (fun g h x1 => fX12_keep_b2_body N  g t h x1) n
set_option maxHeartbeats 4000000 in
set_option maxRecDepth 20000 in
theorem wX12_keep_b2_body {p : Program} {l : Launch} {e : Env} {s : State} {m : MethodId} {args : Array Value} {below : List Frame} {meth : Method} {c : Code} {G : Gl} {N : Nat} {h : Hs} {r : Hs}  {g2 : Hs → Int32 → Option (Hs)} {t : Nat} {x1 : Int32} (C : Cx p s m args meth c cX12_keep RX12 2 G) (hret : meth.sig.returnType = none)  (hg2 : ∀ (h : Hs) (x1 : Int32), g2 h x1 = some r → V p l e rmX12_keep s m args below meth c G 2 (MQ below (QcG G (none) r) args s rmX12_keep.cells rmX12_keep.slots (AG G)) h 0 0 2 [some (.inr (some t)), some (.inl x1)] []) (hf : fX12_keep_b2_body N  g2 t h x1 = some r) : V p l e rmX12_keep s m args below meth c G 2 (MQ below (QcG G (none) r) args s rmX12_keep.cells rmX12_keep.slots (AG G)) h 0 0 2 [some (.inr (some t)), some (.inl x1)] [] := by
  unfold fX12_keep_b2_body at hf
  refine r_iload_n C dX12_keep_2 rfl ?_
  refine r_aload_n C dX12_keep_3 rfl ?_
  obtain ⟨v1, ev1, hf⟩ := bS hf
  refine r_getI C dX12_keep_4 fl_X12_146 rfl ev1 ?_
  refine r_icmp_ge (tgt := 40) C dX12_keep_7 (by decide) (fun hc => ?_) (fun hc => ?_)
  · have hf := ifT hf hc
    refine r_iconst (v := 0) C dX12_keep_40 (by decide) ?_
    refine r_istore_n C dX12_keep_41 (by decide) ?_
    exact V.sub (wX12_keep_b42 C hret N _ _ hf) (LW_s rfl (LW_s rfl (LW_e)))
  · have hf := ifF hf hc
    refine r_aload_n C dX12_keep_10 rfl ?_
    obtain ⟨o2, eo2, hf⟩ := bS hf
    refine r_getR C dX12_keep_11 fl_X12_104 rfl eo2 ?_
    refine r_iload_n C dX12_keep_14 rfl ?_
    refine r_aload_n C dX12_keep_15 rfl ?_
    obtain ⟨o3, eo3, hf⟩ := bS hf
    refine r_getR C dX12_keep_16 fl_X12_19 rfl eo3 ?_
    refine r_iload_n C dX12_keep_19 rfl ?_
    obtain ⟨v4, ev4, hf⟩ := bS hf
    refine r_iald C dX12_keep_20 ev4 ?_
    obtain ⟨h5, eh5, hf⟩ := bS hf
    refine r_iast C dX12_keep_21 eh5 ?_
    refine r_aload_n C dX12_keep_22 rfl ?_
    obtain ⟨o6, eo6, hf⟩ := bS hf
    refine r_getR C dX12_keep_23 fl_X12_107 rfl eo6 ?_
    refine r_iload_n C dX12_keep_26 rfl ?_
    refine r_aload_n C dX12_keep_27 rfl ?_
    obtain ⟨o7, eo7, hf⟩ := bS hf
    refine r_getR C dX12_keep_28 fl_X12_28 rfl eo7 ?_
    refine r_iload_n C dX12_keep_31 rfl ?_
    obtain ⟨v8, ev8, hf⟩ := bS hf
    refine r_iald C dX12_keep_32 ev8 ?_
    obtain ⟨h9, eh9, hf⟩ := bS hf
    refine r_iast C dX12_keep_33 eh9 ?_
    obtain ⟨y10, ey10, hf⟩ := bS hf
    refine r_iincE (v := 1) C dX12_keep_34 rfl (by decide) (by decide) ey10 ?_
    refine r_goto (tgt := 2) C dX12_keep_37 (by decide) ?_
    exact V.sub (hg2 _ _ hf) (LW_s rfl (LW_s rfl (LW_e)))
theorem wX12_keep_b2 {p : Program} {l : Launch} {e : Env} {s : State} {m : MethodId} {args : Array Value} {below : List Frame} {meth : Method} {c : Code} {G : Gl} {N : Nat} {r : Hs}  {t : Nat} (C : Cx p s m args meth c cX12_keep RX12 2 G) (hret : meth.sig.returnType = none)  : ∀ (n : Nat) (h : Hs) (x1 : Int32), fX12_keep_b2 N  t n h x1 = some r → V p l e rmX12_keep s m args below meth c G 2 (MQ below (QcG G (none) r) args s rmX12_keep.cells rmX12_keep.slots (AG G)) h 0 0 2 [some (.inr (some t)), some (.inl x1)] [] := by
  intro n
  induction n with
  | zero => intro h x1 hf; exact absurd (show (none : Option (Hs)) = some r from hf) (fun q => by cases q)
  | succ n ih => intro h x1 hf; exact wX12_keep_b2_body C hret  ih (show fX12_keep_b2_body N  (fX12_keep_b2 N  t n) t h x1 = some r from hf)
noncomputable def fX12_keep (N : Nat) (h : Hs) (t : Nat)  : Option (Hs) :=
  fX12_keep_b2 N t N h 0
set_option maxHeartbeats 4000000 in
set_option maxRecDepth 20000 in
theorem kX12_keep (l : Launch) (G : Gl) {N : Nat} {h : Hs} {t : Nat}  {r : Hs} (hf : fX12_keep N h t  = some r) : CT l G yX12_keep cX12_keep 2 none rmX12_keep [.inr (some t)] h (none) r := by
  refine mk_CT (by decide) (Nat.le_of_ble_eq_true rfl) ?_
  intro p e s m args below meth c C hret hin
  unfold fX12_keep at hf
  refine r_iconst (v := 0) C dX12_keep_0 (by decide) ?_
  refine r_istore_n C dX12_keep_1 (by decide) ?_
  exact V.sub (wX12_keep_b2 C hret N _ _ hf) (LW_s rfl (LW_s rfl (LW_e)))

theorem dgX12_play_0 : (decode cX12_play 0 = .ok (.aload_n 0, 1)) ∧ (decode cX12_play 1 = .ok (.iconst 0, 1)) ∧ (decode cX12_play 2 = .ok (.putfield 249, 3)) ∧ (decode cX12_play 5 = .ok (.aload_n 0, 1)) ∧ (decode cX12_play 6 = .ok (.iconst 0, 1)) ∧ (decode cX12_play 7 = .ok (.putfield 258, 3)) ∧ (decode cX12_play 10 = .ok (.aload_n 0, 1)) ∧ (decode cX12_play 11 = .ok (.invokevirtual 271, 3)) ∧ (decode cX12_play 14 = .ok (.istore_n 1, 1)) ∧ (decode cX12_play 15 = .ok (.iload_n 1, 1)) ∧ (decode cX12_play 16 = .ok (.ifCond .eq 22, 3)) ∧ (decode cX12_play 19 = .ok (.aload_n 0, 1)) ∧ True := dkW [(0, .aload_n 0, 1), (1, .iconst 0, 1), (2, .putfield 249, 3), (5, .aload_n 0, 1), (6, .iconst 0, 1), (7, .putfield 258, 3), (10, .aload_n 0, 1), (11, .invokevirtual 271, 3), (14, .istore_n 1, 1), (15, .iload_n 1, 1), (16, .ifCond .eq 22, 3), (19, .aload_n 0, 1)] 0 (by decide +kernel)
theorem dX12_play_0 : decode cX12_play 0 = .ok (.aload_n 0, 1) := dgX12_play_0.1
theorem dX12_play_1 : decode cX12_play 1 = .ok (.iconst 0, 1) := dgX12_play_0.2.1
theorem dX12_play_2 : decode cX12_play 2 = .ok (.putfield 249, 3) := dgX12_play_0.2.2.1
theorem dX12_play_5 : decode cX12_play 5 = .ok (.aload_n 0, 1) := dgX12_play_0.2.2.2.1
theorem dX12_play_6 : decode cX12_play 6 = .ok (.iconst 0, 1) := dgX12_play_0.2.2.2.2.1
theorem dX12_play_7 : decode cX12_play 7 = .ok (.putfield 258, 3) := dgX12_play_0.2.2.2.2.2.1
theorem dX12_play_10 : decode cX12_play 10 = .ok (.aload_n 0, 1) := dgX12_play_0.2.2.2.2.2.2.1
theorem dX12_play_11 : decode cX12_play 11 = .ok (.invokevirtual 271, 3) := dgX12_play_0.2.2.2.2.2.2.2.1
theorem dX12_play_14 : decode cX12_play 14 = .ok (.istore_n 1, 1) := dgX12_play_0.2.2.2.2.2.2.2.2.1
theorem dX12_play_15 : decode cX12_play 15 = .ok (.iload_n 1, 1) := dgX12_play_0.2.2.2.2.2.2.2.2.2.1
theorem dX12_play_16 : decode cX12_play 16 = .ok (.ifCond .eq 22, 3) := dgX12_play_0.2.2.2.2.2.2.2.2.2.2.1
theorem dX12_play_19 : decode cX12_play 19 = .ok (.aload_n 0, 1) := dgX12_play_0.2.2.2.2.2.2.2.2.2.2.2.1
theorem dgX12_play_20 : (decode cX12_play 20 = .ok (.getfield 249, 3)) ∧ (decode cX12_play 23 = .ok (.aload_n 0, 1)) ∧ (decode cX12_play 24 = .ok (.getfield 246, 3)) ∧ (decode cX12_play 27 = .ok (.if_icmp .ge 11, 3)) ∧ (decode cX12_play 30 = .ok (.aload_n 0, 1)) ∧ (decode cX12_play 31 = .ok (.invokevirtual 271, 3)) ∧ (decode cX12_play 34 = .ok (.istore_n 1, 1)) ∧ (decode cX12_play 35 = .ok (.goto (-20), 3)) ∧ (decode cX12_play 38 = .ok (.aload_n 0, 1)) ∧ (decode cX12_play 39 = .ok (.iconst 0, 1)) ∧ (decode cX12_play 40 = .ok (.putfield 246, 3)) ∧ (decode cX12_play 43 = .ok (.iload_n 1, 1)) ∧ True := dkW [(20, .getfield 249, 3), (23, .aload_n 0, 1), (24, .getfield 246, 3), (27, .if_icmp .ge 11, 3), (30, .aload_n 0, 1), (31, .invokevirtual 271, 3), (34, .istore_n 1, 1), (35, .goto (-20), 3), (38, .aload_n 0, 1), (39, .iconst 0, 1), (40, .putfield 246, 3), (43, .iload_n 1, 1)] 20 (by decide +kernel)
theorem dX12_play_20 : decode cX12_play 20 = .ok (.getfield 249, 3) := dgX12_play_20.1
theorem dX12_play_23 : decode cX12_play 23 = .ok (.aload_n 0, 1) := dgX12_play_20.2.1
theorem dX12_play_24 : decode cX12_play 24 = .ok (.getfield 246, 3) := dgX12_play_20.2.2.1
theorem dX12_play_27 : decode cX12_play 27 = .ok (.if_icmp .ge 11, 3) := dgX12_play_20.2.2.2.1
theorem dX12_play_30 : decode cX12_play 30 = .ok (.aload_n 0, 1) := dgX12_play_20.2.2.2.2.1
theorem dX12_play_31 : decode cX12_play 31 = .ok (.invokevirtual 271, 3) := dgX12_play_20.2.2.2.2.2.1
theorem dX12_play_34 : decode cX12_play 34 = .ok (.istore_n 1, 1) := dgX12_play_20.2.2.2.2.2.2.1
theorem dX12_play_35 : decode cX12_play 35 = .ok (.goto (-20), 3) := dgX12_play_20.2.2.2.2.2.2.2.1
theorem dX12_play_38 : decode cX12_play 38 = .ok (.aload_n 0, 1) := dgX12_play_20.2.2.2.2.2.2.2.2.1
theorem dX12_play_39 : decode cX12_play 39 = .ok (.iconst 0, 1) := dgX12_play_20.2.2.2.2.2.2.2.2.2.1
theorem dX12_play_40 : decode cX12_play 40 = .ok (.putfield 246, 3) := dgX12_play_20.2.2.2.2.2.2.2.2.2.2.1
theorem dX12_play_43 : decode cX12_play 43 = .ok (.iload_n 1, 1) := dgX12_play_20.2.2.2.2.2.2.2.2.2.2.2.1
theorem dgX12_play_44 : (decode cX12_play 44 = .ok (.ifCond .ne 11, 3)) ∧ (decode cX12_play 47 = .ok (.bipush (-100), 2)) ∧ (decode cX12_play 49 = .ok (.aload_n 0, 1)) ∧ (decode cX12_play 50 = .ok (.getfield 249, 3)) ∧ (decode cX12_play 53 = .ok (.isub, 1)) ∧ (decode cX12_play 54 = .ok (.ireturn, 1)) ∧ (decode cX12_play 55 = .ok (.aload_n 0, 1)) ∧ (decode cX12_play 56 = .ok (.invokevirtual 275, 3)) ∧ (decode cX12_play 59 = .ok (.aload_n 0, 1)) ∧ (decode cX12_play 60 = .ok (.iconst 1, 1)) ∧ (decode cX12_play 61 = .ok (.putfield 162, 3)) ∧ (decode cX12_play 64 = .ok (.iconst 0, 1)) ∧ True := dkW [(44, .ifCond .ne 11, 3), (47, .bipush (-100), 2), (49, .aload_n 0, 1), (50, .getfield 249, 3), (53, .isub, 1), (54, .ireturn, 1), (55, .aload_n 0, 1), (56, .invokevirtual 275, 3), (59, .aload_n 0, 1), (60, .iconst 1, 1), (61, .putfield 162, 3), (64, .iconst 0, 1)] 44 (by decide +kernel)
theorem dX12_play_44 : decode cX12_play 44 = .ok (.ifCond .ne 11, 3) := dgX12_play_44.1
theorem dX12_play_47 : decode cX12_play 47 = .ok (.bipush (-100), 2) := dgX12_play_44.2.1
theorem dX12_play_49 : decode cX12_play 49 = .ok (.aload_n 0, 1) := dgX12_play_44.2.2.1
theorem dX12_play_50 : decode cX12_play 50 = .ok (.getfield 249, 3) := dgX12_play_44.2.2.2.1
theorem dX12_play_53 : decode cX12_play 53 = .ok (.isub, 1) := dgX12_play_44.2.2.2.2.1
theorem dX12_play_54 : decode cX12_play 54 = .ok (.ireturn, 1) := dgX12_play_44.2.2.2.2.2.1
theorem dX12_play_55 : decode cX12_play 55 = .ok (.aload_n 0, 1) := dgX12_play_44.2.2.2.2.2.2.1
theorem dX12_play_56 : decode cX12_play 56 = .ok (.invokevirtual 275, 3) := dgX12_play_44.2.2.2.2.2.2.2.1
theorem dX12_play_59 : decode cX12_play 59 = .ok (.aload_n 0, 1) := dgX12_play_44.2.2.2.2.2.2.2.2.1
theorem dX12_play_60 : decode cX12_play 60 = .ok (.iconst 1, 1) := dgX12_play_44.2.2.2.2.2.2.2.2.2.1
theorem dX12_play_61 : decode cX12_play 61 = .ok (.putfield 162, 3) := dgX12_play_44.2.2.2.2.2.2.2.2.2.2.1
theorem dX12_play_64 : decode cX12_play 64 = .ok (.iconst 0, 1) := dgX12_play_44.2.2.2.2.2.2.2.2.2.2.2.1
theorem dgX12_play_65 : (decode cX12_play 65 = .ok (.istore_n 2, 1)) ∧ (decode cX12_play 66 = .ok (.iload_n 2, 1)) ∧ (decode cX12_play 67 = .ok (.aload_n 0, 1)) ∧ (decode cX12_play 68 = .ok (.getfield 258, 3)) ∧ (decode cX12_play 71 = .ok (.if_icmp .ge 144, 3)) ∧ (decode cX12_play 74 = .ok (.aload_n 0, 1)) ∧ (decode cX12_play 75 = .ok (.getfield 98, 3)) ∧ (decode cX12_play 78 = .ok (.iload_n 2, 1)) ∧ (decode cX12_play 79 = .ok (.iaload, 1)) ∧ (decode cX12_play 80 = .ok (.istore_n 3, 1)) ∧ (decode cX12_play 81 = .ok (.aload_n 0, 1)) ∧ (decode cX12_play 82 = .ok (.getfield 95, 3)) ∧ True := dkW [(65, .istore_n 2, 1), (66, .iload_n 2, 1), (67, .aload_n 0, 1), (68, .getfield 258, 3), (71, .if_icmp .ge 144, 3), (74, .aload_n 0, 1), (75, .getfield 98, 3), (78, .iload_n 2, 1), (79, .iaload, 1), (80, .istore_n 3, 1), (81, .aload_n 0, 1), (82, .getfield 95, 3)] 65 (by decide +kernel)
theorem dX12_play_65 : decode cX12_play 65 = .ok (.istore_n 2, 1) := dgX12_play_65.1
theorem dX12_play_66 : decode cX12_play 66 = .ok (.iload_n 2, 1) := dgX12_play_65.2.1
theorem dX12_play_67 : decode cX12_play 67 = .ok (.aload_n 0, 1) := dgX12_play_65.2.2.1
theorem dX12_play_68 : decode cX12_play 68 = .ok (.getfield 258, 3) := dgX12_play_65.2.2.2.1
theorem dX12_play_71 : decode cX12_play 71 = .ok (.if_icmp .ge 144, 3) := dgX12_play_65.2.2.2.2.1
theorem dX12_play_74 : decode cX12_play 74 = .ok (.aload_n 0, 1) := dgX12_play_65.2.2.2.2.2.1
theorem dX12_play_75 : decode cX12_play 75 = .ok (.getfield 98, 3) := dgX12_play_65.2.2.2.2.2.2.1
theorem dX12_play_78 : decode cX12_play 78 = .ok (.iload_n 2, 1) := dgX12_play_65.2.2.2.2.2.2.2.1
theorem dX12_play_79 : decode cX12_play 79 = .ok (.iaload, 1) := dgX12_play_65.2.2.2.2.2.2.2.2.1
theorem dX12_play_80 : decode cX12_play 80 = .ok (.istore_n 3, 1) := dgX12_play_65.2.2.2.2.2.2.2.2.2.1
theorem dX12_play_81 : decode cX12_play 81 = .ok (.aload_n 0, 1) := dgX12_play_65.2.2.2.2.2.2.2.2.2.2.1
theorem dX12_play_82 : decode cX12_play 82 = .ok (.getfield 95, 3) := dgX12_play_65.2.2.2.2.2.2.2.2.2.2.2.1
theorem dgX12_play_85 : (decode cX12_play 85 = .ok (.iload_n 2, 1)) ∧ (decode cX12_play 86 = .ok (.iaload, 1)) ∧ (decode cX12_play 87 = .ok (.bipush 115, 2)) ∧ (decode cX12_play 89 = .ok (.if_icmp .ne 24, 3)) ∧ (decode cX12_play 92 = .ok (.aload_n 0, 1)) ∧ (decode cX12_play 93 = .ok (.iload_n 3, 1)) ∧ (decode cX12_play 94 = .ok (.invokevirtual 220, 3)) ∧ (decode cX12_play 97 = .ok (.iload_n 3, 1)) ∧ (decode cX12_play 98 = .ok (.ifCond .ge 8, 3)) ∧ (decode cX12_play 101 = .ok (.iload_n 3, 1)) ∧ (decode cX12_play 102 = .ok (.ineg, 1)) ∧ (decode cX12_play 103 = .ok (.goto 4, 3)) ∧ True := dkW [(85, .iload_n 2, 1), (86, .iaload, 1), (87, .bipush 115, 2), (89, .if_icmp .ne 24, 3), (92, .aload_n 0, 1), (93, .iload_n 3, 1), (94, .invokevirtual 220, 3), (97, .iload_n 3, 1), (98, .ifCond .ge 8, 3), (101, .iload_n 3, 1), (102, .ineg, 1), (103, .goto 4, 3)] 85 (by decide +kernel)
theorem dX12_play_85 : decode cX12_play 85 = .ok (.iload_n 2, 1) := dgX12_play_85.1
theorem dX12_play_86 : decode cX12_play 86 = .ok (.iaload, 1) := dgX12_play_85.2.1
theorem dX12_play_87 : decode cX12_play 87 = .ok (.bipush 115, 2) := dgX12_play_85.2.2.1
theorem dX12_play_89 : decode cX12_play 89 = .ok (.if_icmp .ne 24, 3) := dgX12_play_85.2.2.2.1
theorem dX12_play_92 : decode cX12_play 92 = .ok (.aload_n 0, 1) := dgX12_play_85.2.2.2.2.1
theorem dX12_play_93 : decode cX12_play 93 = .ok (.iload_n 3, 1) := dgX12_play_85.2.2.2.2.2.1
theorem dX12_play_94 : decode cX12_play 94 = .ok (.invokevirtual 220, 3) := dgX12_play_85.2.2.2.2.2.2.1
theorem dX12_play_97 : decode cX12_play 97 = .ok (.iload_n 3, 1) := dgX12_play_85.2.2.2.2.2.2.2.1
theorem dX12_play_98 : decode cX12_play 98 = .ok (.ifCond .ge 8, 3) := dgX12_play_85.2.2.2.2.2.2.2.2.1
theorem dX12_play_101 : decode cX12_play 101 = .ok (.iload_n 3, 1) := dgX12_play_85.2.2.2.2.2.2.2.2.2.1
theorem dX12_play_102 : decode cX12_play 102 = .ok (.ineg, 1) := dgX12_play_85.2.2.2.2.2.2.2.2.2.2.1
theorem dX12_play_103 : decode cX12_play 103 = .ok (.goto 4, 3) := dgX12_play_85.2.2.2.2.2.2.2.2.2.2.2.1
theorem dgX12_play_106 : (decode cX12_play 106 = .ok (.iload_n 3, 1)) ∧ (decode cX12_play 107 = .ok (.if_icmp .ge 102, 3)) ∧ (decode cX12_play 110 = .ok (.bipush (-5), 2)) ∧ (decode cX12_play 112 = .ok (.ireturn, 1)) ∧ (decode cX12_play 113 = .ok (.aload_n 0, 1)) ∧ (decode cX12_play 114 = .ok (.getfield 95, 3)) ∧ (decode cX12_play 117 = .ok (.iload_n 2, 1)) ∧ (decode cX12_play 118 = .ok (.iaload, 1)) ∧ (decode cX12_play 119 = .ok (.bipush 116, 2)) ∧ (decode cX12_play 121 = .ok (.if_icmp .ne 25, 3)) ∧ (decode cX12_play 124 = .ok (.aload_n 0, 1)) ∧ (decode cX12_play 125 = .ok (.iload_n 3, 1)) ∧ True := dkW [(106, .iload_n 3, 1), (107, .if_icmp .ge 102, 3), (110, .bipush (-5), 2), (112, .ireturn, 1), (113, .aload_n 0, 1), (114, .getfield 95, 3), (117, .iload_n 2, 1), (118, .iaload, 1), (119, .bipush 116, 2), (121, .if_icmp .ne 25, 3), (124, .aload_n 0, 1), (125, .iload_n 3, 1)] 106 (by decide +kernel)
theorem dX12_play_106 : decode cX12_play 106 = .ok (.iload_n 3, 1) := dgX12_play_106.1
theorem dX12_play_107 : decode cX12_play 107 = .ok (.if_icmp .ge 102, 3) := dgX12_play_106.2.1
theorem dX12_play_110 : decode cX12_play 110 = .ok (.bipush (-5), 2) := dgX12_play_106.2.2.1
theorem dX12_play_112 : decode cX12_play 112 = .ok (.ireturn, 1) := dgX12_play_106.2.2.2.1
theorem dX12_play_113 : decode cX12_play 113 = .ok (.aload_n 0, 1) := dgX12_play_106.2.2.2.2.1
theorem dX12_play_114 : decode cX12_play 114 = .ok (.getfield 95, 3) := dgX12_play_106.2.2.2.2.2.1
theorem dX12_play_117 : decode cX12_play 117 = .ok (.iload_n 2, 1) := dgX12_play_106.2.2.2.2.2.2.1
theorem dX12_play_118 : decode cX12_play 118 = .ok (.iaload, 1) := dgX12_play_106.2.2.2.2.2.2.2.1
theorem dX12_play_119 : decode cX12_play 119 = .ok (.bipush 116, 2) := dgX12_play_106.2.2.2.2.2.2.2.2.1
theorem dX12_play_121 : decode cX12_play 121 = .ok (.if_icmp .ne 25, 3) := dgX12_play_106.2.2.2.2.2.2.2.2.2.1
theorem dX12_play_124 : decode cX12_play 124 = .ok (.aload_n 0, 1) := dgX12_play_106.2.2.2.2.2.2.2.2.2.2.1
theorem dX12_play_125 : decode cX12_play 125 = .ok (.iload_n 3, 1) := dgX12_play_106.2.2.2.2.2.2.2.2.2.2.2.1
theorem dgX12_play_126 : (decode cX12_play 126 = .ok (.aload_n 0, 1)) ∧ (decode cX12_play 127 = .ok (.getfield 101, 3)) ∧ (decode cX12_play 130 = .ok (.iload_n 2, 1)) ∧ (decode cX12_play 131 = .ok (.iaload, 1)) ∧ (decode cX12_play 132 = .ok (.invokevirtual 184, 3)) ∧ (decode cX12_play 135 = .ok (.ifCond .ge 7, 3)) ∧ (decode cX12_play 138 = .ok (.iconst 1, 1)) ∧ (decode cX12_play 139 = .ok (.goto 57, 3)) ∧ (decode cX12_play 142 = .ok (.iconst 0, 1)) ∧ (decode cX12_play 143 = .ok (.goto 53, 3)) ∧ (decode cX12_play 146 = .ok (.aload_n 0, 1)) ∧ (decode cX12_play 147 = .ok (.getfield 95, 3)) ∧ True := dkW [(126, .aload_n 0, 1), (127, .getfield 101, 3), (130, .iload_n 2, 1), (131, .iaload, 1), (132, .invokevirtual 184, 3), (135, .ifCond .ge 7, 3), (138, .iconst 1, 1), (139, .goto 57, 3), (142, .iconst 0, 1), (143, .goto 53, 3), (146, .aload_n 0, 1), (147, .getfield 95, 3)] 126 (by decide +kernel)
theorem dX12_play_126 : decode cX12_play 126 = .ok (.aload_n 0, 1) := dgX12_play_126.1
theorem dX12_play_127 : decode cX12_play 127 = .ok (.getfield 101, 3) := dgX12_play_126.2.1
theorem dX12_play_130 : decode cX12_play 130 = .ok (.iload_n 2, 1) := dgX12_play_126.2.2.1
theorem dX12_play_131 : decode cX12_play 131 = .ok (.iaload, 1) := dgX12_play_126.2.2.2.1
theorem dX12_play_132 : decode cX12_play 132 = .ok (.invokevirtual 184, 3) := dgX12_play_126.2.2.2.2.1
theorem dX12_play_135 : decode cX12_play 135 = .ok (.ifCond .ge 7, 3) := dgX12_play_126.2.2.2.2.2.1
theorem dX12_play_138 : decode cX12_play 138 = .ok (.iconst 1, 1) := dgX12_play_126.2.2.2.2.2.2.1
theorem dX12_play_139 : decode cX12_play 139 = .ok (.goto 57, 3) := dgX12_play_126.2.2.2.2.2.2.2.1
theorem dX12_play_142 : decode cX12_play 142 = .ok (.iconst 0, 1) := dgX12_play_126.2.2.2.2.2.2.2.2.1
theorem dX12_play_143 : decode cX12_play 143 = .ok (.goto 53, 3) := dgX12_play_126.2.2.2.2.2.2.2.2.2.1
theorem dX12_play_146 : decode cX12_play 146 = .ok (.aload_n 0, 1) := dgX12_play_126.2.2.2.2.2.2.2.2.2.2.1
theorem dX12_play_147 : decode cX12_play 147 = .ok (.getfield 95, 3) := dgX12_play_126.2.2.2.2.2.2.2.2.2.2.2.1
theorem dgX12_play_150 : (decode cX12_play 150 = .ok (.iload_n 2, 1)) ∧ (decode cX12_play 151 = .ok (.iaload, 1)) ∧ (decode cX12_play 152 = .ok (.bipush 117, 2)) ∧ (decode cX12_play 154 = .ok (.if_icmp .ne 21, 3)) ∧ (decode cX12_play 157 = .ok (.aload_n 0, 1)) ∧ (decode cX12_play 158 = .ok (.iload_n 3, 1)) ∧ (decode cX12_play 159 = .ok (.invokevirtual 188, 3)) ∧ (decode cX12_play 162 = .ok (.ldc 177, 2)) ∧ (decode cX12_play 164 = .ok (.if_icmp .ne 7, 3)) ∧ (decode cX12_play 167 = .ok (.iconst 1, 1)) ∧ (decode cX12_play 168 = .ok (.goto 28, 3)) ∧ (decode cX12_play 171 = .ok (.iconst 0, 1)) ∧ True := dkW [(150, .iload_n 2, 1), (151, .iaload, 1), (152, .bipush 117, 2), (154, .if_icmp .ne 21, 3), (157, .aload_n 0, 1), (158, .iload_n 3, 1), (159, .invokevirtual 188, 3), (162, .ldc 177, 2), (164, .if_icmp .ne 7, 3), (167, .iconst 1, 1), (168, .goto 28, 3), (171, .iconst 0, 1)] 150 (by decide +kernel)
theorem dX12_play_150 : decode cX12_play 150 = .ok (.iload_n 2, 1) := dgX12_play_150.1
theorem dX12_play_151 : decode cX12_play 151 = .ok (.iaload, 1) := dgX12_play_150.2.1
theorem dX12_play_152 : decode cX12_play 152 = .ok (.bipush 117, 2) := dgX12_play_150.2.2.1
theorem dX12_play_154 : decode cX12_play 154 = .ok (.if_icmp .ne 21, 3) := dgX12_play_150.2.2.2.1
theorem dX12_play_157 : decode cX12_play 157 = .ok (.aload_n 0, 1) := dgX12_play_150.2.2.2.2.1
theorem dX12_play_158 : decode cX12_play 158 = .ok (.iload_n 3, 1) := dgX12_play_150.2.2.2.2.2.1
theorem dX12_play_159 : decode cX12_play 159 = .ok (.invokevirtual 188, 3) := dgX12_play_150.2.2.2.2.2.2.1
theorem dX12_play_162 : decode cX12_play 162 = .ok (.ldc 177, 2) := dgX12_play_150.2.2.2.2.2.2.2.1
theorem dX12_play_164 : decode cX12_play 164 = .ok (.if_icmp .ne 7, 3) := dgX12_play_150.2.2.2.2.2.2.2.2.1
theorem dX12_play_167 : decode cX12_play 167 = .ok (.iconst 1, 1) := dgX12_play_150.2.2.2.2.2.2.2.2.2.1
theorem dX12_play_168 : decode cX12_play 168 = .ok (.goto 28, 3) := dgX12_play_150.2.2.2.2.2.2.2.2.2.2.1
theorem dX12_play_171 : decode cX12_play 171 = .ok (.iconst 0, 1) := dgX12_play_150.2.2.2.2.2.2.2.2.2.2.2.1
theorem dgX12_play_172 : (decode cX12_play 172 = .ok (.goto 24, 3)) ∧ (decode cX12_play 175 = .ok (.aload_n 0, 1)) ∧ (decode cX12_play 176 = .ok (.iload_n 3, 1)) ∧ (decode cX12_play 177 = .ok (.aload_n 0, 1)) ∧ (decode cX12_play 178 = .ok (.getfield 101, 3)) ∧ (decode cX12_play 181 = .ok (.iload_n 2, 1)) ∧ (decode cX12_play 182 = .ok (.iaload, 1)) ∧ (decode cX12_play 183 = .ok (.invokevirtual 191, 3)) ∧ (decode cX12_play 186 = .ok (.ldc 177, 2)) ∧ (decode cX12_play 188 = .ok (.if_icmp .ne 7, 3)) ∧ (decode cX12_play 191 = .ok (.iconst 1, 1)) ∧ (decode cX12_play 192 = .ok (.goto 4, 3)) ∧ True := dkW [(172, .goto 24, 3), (175, .aload_n 0, 1), (176, .iload_n 3, 1), (177, .aload_n 0, 1), (178, .getfield 101, 3), (181, .iload_n 2, 1), (182, .iaload, 1), (183, .invokevirtual 191, 3), (186, .ldc 177, 2), (188, .if_icmp .ne 7, 3), (191, .iconst 1, 1), (192, .goto 4, 3)] 172 (by decide +kernel)
theorem dX12_play_172 : decode cX12_play 172 = .ok (.goto 24, 3) := dgX12_play_172.1
theorem dX12_play_175 : decode cX12_play 175 = .ok (.aload_n 0, 1) := dgX12_play_172.2.1
theorem dX12_play_176 : decode cX12_play 176 = .ok (.iload_n 3, 1) := dgX12_play_172.2.2.1
theorem dX12_play_177 : decode cX12_play 177 = .ok (.aload_n 0, 1) := dgX12_play_172.2.2.2.1
theorem dX12_play_178 : decode cX12_play 178 = .ok (.getfield 101, 3) := dgX12_play_172.2.2.2.2.1
theorem dX12_play_181 : decode cX12_play 181 = .ok (.iload_n 2, 1) := dgX12_play_172.2.2.2.2.2.1
theorem dX12_play_182 : decode cX12_play 182 = .ok (.iaload, 1) := dgX12_play_172.2.2.2.2.2.2.1
theorem dX12_play_183 : decode cX12_play 183 = .ok (.invokevirtual 191, 3) := dgX12_play_172.2.2.2.2.2.2.2.1
theorem dX12_play_186 : decode cX12_play 186 = .ok (.ldc 177, 2) := dgX12_play_172.2.2.2.2.2.2.2.2.1
theorem dX12_play_188 : decode cX12_play 188 = .ok (.if_icmp .ne 7, 3) := dgX12_play_172.2.2.2.2.2.2.2.2.2.1
theorem dX12_play_191 : decode cX12_play 191 = .ok (.iconst 1, 1) := dgX12_play_172.2.2.2.2.2.2.2.2.2.2.1
theorem dX12_play_192 : decode cX12_play 192 = .ok (.goto 4, 3) := dgX12_play_172.2.2.2.2.2.2.2.2.2.2.2.1
theorem dgX12_play_195 : (decode cX12_play 195 = .ok (.iconst 0, 1)) ∧ (decode cX12_play 196 = .ok (.istore 4, 2)) ∧ (decode cX12_play 198 = .ok (.iload 4, 2)) ∧ (decode cX12_play 200 = .ok (.ifCond .eq 9, 3)) ∧ (decode cX12_play 203 = .ok (.sipush (-1000), 3)) ∧ (decode cX12_play 206 = .ok (.iload_n 2, 1)) ∧ (decode cX12_play 207 = .ok (.isub, 1)) ∧ (decode cX12_play 208 = .ok (.ireturn, 1)) ∧ (decode cX12_play 209 = .ok (.iinc 2 1, 3)) ∧ (decode cX12_play 212 = .ok (.goto (-146), 3)) ∧ (decode cX12_play 215 = .ok (.aload_n 0, 1)) ∧ (decode cX12_play 216 = .ok (.getfield 258, 3)) ∧ True := dkW [(195, .iconst 0, 1), (196, .istore 4, 2), (198, .iload 4, 2), (200, .ifCond .eq 9, 3), (203, .sipush (-1000), 3), (206, .iload_n 2, 1), (207, .isub, 1), (208, .ireturn, 1), (209, .iinc 2 1, 3), (212, .goto (-146), 3), (215, .aload_n 0, 1), (216, .getfield 258, 3)] 195 (by decide +kernel)
theorem dX12_play_195 : decode cX12_play 195 = .ok (.iconst 0, 1) := dgX12_play_195.1
theorem dX12_play_196 : decode cX12_play 196 = .ok (.istore 4, 2) := dgX12_play_195.2.1
theorem dX12_play_198 : decode cX12_play 198 = .ok (.iload 4, 2) := dgX12_play_195.2.2.1
theorem dX12_play_200 : decode cX12_play 200 = .ok (.ifCond .eq 9, 3) := dgX12_play_195.2.2.2.1
theorem dX12_play_203 : decode cX12_play 203 = .ok (.sipush (-1000), 3) := dgX12_play_195.2.2.2.2.1
theorem dX12_play_206 : decode cX12_play 206 = .ok (.iload_n 2, 1) := dgX12_play_195.2.2.2.2.2.1
theorem dX12_play_207 : decode cX12_play 207 = .ok (.isub, 1) := dgX12_play_195.2.2.2.2.2.2.1
theorem dX12_play_208 : decode cX12_play 208 = .ok (.ireturn, 1) := dgX12_play_195.2.2.2.2.2.2.2.1
theorem dX12_play_209 : decode cX12_play 209 = .ok (.iinc 2 1, 3) := dgX12_play_195.2.2.2.2.2.2.2.2.1
theorem dX12_play_212 : decode cX12_play 212 = .ok (.goto (-146), 3) := dgX12_play_195.2.2.2.2.2.2.2.2.2.1
theorem dX12_play_215 : decode cX12_play 215 = .ok (.aload_n 0, 1) := dgX12_play_195.2.2.2.2.2.2.2.2.2.2.1
theorem dX12_play_216 : decode cX12_play 216 = .ok (.getfield 258, 3) := dgX12_play_195.2.2.2.2.2.2.2.2.2.2.2.1
theorem dgX12_play_219 : (decode cX12_play 219 = .ok (.ireturn, 1)) ∧ True := dkW [(219, .ireturn, 1)] 219 (by decide +kernel)
theorem dX12_play_219 : decode cX12_play 219 = .ok (.ireturn, 1) := dgX12_play_219.1
abbrev rmX12_play : Room := { frames := 4, cells := 0, slots := 0, locals := 91 }
noncomputable def fX12_play_b209 (N : Nat) (g66 : Hs → Int32 → Option (Int32 × Hs)) (t : Nat) (h : Hs) (x2 : Int32) : Option (Int32 × Hs) :=
  (some (x2 + 1)).bind fun y1 =>
  g66 h y1
set_option maxHeartbeats 4000000 in
set_option maxRecDepth 20000 in
theorem wX12_play_b209 {p : Program} {l : Launch} {e : Env} {s : State} {m : MethodId} {args : Array Value} {below : List Frame} {meth : Method} {c : Code} {G : Gl} {N : Nat} {h : Hs} {r : Int32 × Hs} {g66 : Hs → Int32 → Option (Int32 × Hs)} {t : Nat} {x2 : Int32} (C : Cx p s m args meth c cX12_play RX12 5 G) (hret : meth.sig.returnType = (some .int)) (hg66 : ∀ (h : Hs) (x2 : Int32), g66 h x2 = some r → V p l e rmX12_play s m args below meth c G 5 (MQ below (QcG G (some (.inl r.1)) r.2) args s rmX12_play.cells rmX12_play.slots (AG G)) h 0 0 66 [some (.inr (some t)), none, some (.inl x2), none, none] []) (hf : fX12_play_b209 N g66 t h x2 = some r) : V p l e rmX12_play s m args below meth c G 5 (MQ below (QcG G (some (.inl r.1)) r.2) args s rmX12_play.cells rmX12_play.slots (AG G)) h 0 0 209 [some (.inr (some t)), none, some (.inl x2), none, none] [] := by
  unfold fX12_play_b209 at hf
  obtain ⟨y1, ey1, hf⟩ := bS hf
  refine r_iincE (v := 1) C dX12_play_209 rfl (by decide) (by decide) ey1 ?_
  refine r_goto (tgt := 66) C dX12_play_212 (by decide) ?_
  exact V.sub (hg66 _ _ hf) (LW_s rfl (LW_n (LW_s rfl (LW_n (LW_n (LW_e))))))
noncomputable def fX12_play_b196 (N : Nat) (g66 : Hs → Int32 → Option (Int32 × Hs)) (t : Nat) (h : Hs) (x2 : Int32) (u0 : Int32) : Option (Int32 × Hs) :=
  if u0 = 0 then (
  fX12_play_b209 N g66 t h x2)
  else some ((-1000) - x2, h)
set_option maxHeartbeats 4000000 in
set_option maxRecDepth 20000 in
theorem wX12_play_b196 {p : Program} {l : Launch} {e : Env} {s : State} {m : MethodId} {args : Array Value} {below : List Frame} {meth : Method} {c : Code} {G : Gl} {N : Nat} {h : Hs} {r : Int32 × Hs} {g66 : Hs → Int32 → Option (Int32 × Hs)} {t : Nat} {x2 : Int32} {u0 : Int32} (C : Cx p s m args meth c cX12_play RX12 5 G) (hret : meth.sig.returnType = (some .int)) (hg66 : ∀ (h : Hs) (x2 : Int32), g66 h x2 = some r → V p l e rmX12_play s m args below meth c G 5 (MQ below (QcG G (some (.inl r.1)) r.2) args s rmX12_play.cells rmX12_play.slots (AG G)) h 0 0 66 [some (.inr (some t)), none, some (.inl x2), none, none] []) (hf : fX12_play_b196 N g66 t h x2 u0 = some r) : V p l e rmX12_play s m args below meth c G 5 (MQ below (QcG G (some (.inl r.1)) r.2) args s rmX12_play.cells rmX12_play.slots (AG G)) h 0 0 196 [some (.inr (some t)), none, some (.inl x2), none, none] [.inl u0] := by
  unfold fX12_play_b196 at hf
  refine r_istore C dX12_play_196 (by decide) ?_
  refine r_iload C dX12_play_198 rfl ?_
  refine r_if_eq (tgt := 209) C dX12_play_200 (by decide) (fun hc => ?_) (fun hc => ?_)
  · have hf := ifT hf hc
    exact V.sub (wX12_play_b209 C hret hg66 hf) (LW_s rfl (LW_n (LW_s rfl (LW_n (LW_n (LW_e))))))
  · have hf := ifF hf hc
    refine r_sipush (v := -1000) C dX12_play_203 (by decide) ?_
    refine r_iload_n C dX12_play_206 rfl ?_
    refine r_isub C dX12_play_207 ?_
    exact r_iretF C dX12_play_208 hret hf (by decide) (by decide)
noncomputable def fX12_play_b107 (N : Nat) (g66 : Hs → Int32 → Option (Int32 × Hs)) (t : Nat) (h : Hs) (x2 : Int32) (u0 : Int32) (u1 : Int32) : Option (Int32 × Hs) :=
  if u1 ≤ u0 then (
  fX12_play_b209 N g66 t h x2)
  else some ((-5), h)
set_option maxHeartbeats 4000000 in
set_option maxRecDepth 20000 in
theorem wX12_play_b107 {p : Program} {l : Launch} {e : Env} {s : State} {m : MethodId} {args : Array Value} {below : List Frame} {meth : Method} {c : Code} {G : Gl} {N : Nat} {h : Hs} {r : Int32 × Hs} {g66 : Hs → Int32 → Option (Int32 × Hs)} {t : Nat} {x2 : Int32} {u0 : Int32} {u1 : Int32} (C : Cx p s m args meth c cX12_play RX12 5 G) (hret : meth.sig.returnType = (some .int)) (hg66 : ∀ (h : Hs) (x2 : Int32), g66 h x2 = some r → V p l e rmX12_play s m args below meth c G 5 (MQ below (QcG G (some (.inl r.1)) r.2) args s rmX12_play.cells rmX12_play.slots (AG G)) h 0 0 66 [some (.inr (some t)), none, some (.inl x2), none, none] []) (hf : fX12_play_b107 N g66 t h x2 u0 u1 = some r) : V p l e rmX12_play s m args below meth c G 5 (MQ below (QcG G (some (.inl r.1)) r.2) args s rmX12_play.cells rmX12_play.slots (AG G)) h 0 0 107 [some (.inr (some t)), none, some (.inl x2), none, none] [.inl u1, .inl u0] := by
  unfold fX12_play_b107 at hf
  refine r_icmp_ge (tgt := 209) C dX12_play_107 (by decide) (fun hc => ?_) (fun hc => ?_)
  · have hf := ifT hf hc
    exact V.sub (wX12_play_b209 C hret hg66 hf) (LW_s rfl (LW_n (LW_s rfl (LW_n (LW_n (LW_e))))))
  · have hf := ifF hf hc
    refine r_bipush (v := -5) C dX12_play_110 (by decide) ?_
    exact r_iretF C dX12_play_112 hret hf (by decide) (by decide)
noncomputable def fX12_play_b66_body (N : Nat)  (g66 : Hs → Int32 → Option (Int32 × Hs)) (t : Nat) (h : Hs) (x2 : Int32) : Option (Int32 × Hs) :=
  (oI 12 39 h (some t)).bind fun v1 =>
  if v1 ≤ x2 then (
  (oI 12 39 h (some t)).bind fun v2 =>
  some (v2, h))
  else (oR 12 41 h (some t)).bind fun o3 =>
  (lA 20 h o3 x2).bind fun v4 =>
  (oR 12 40 h (some t)).bind fun o5 =>
  (lA 20 h o5 x2).bind fun v6 =>
  if v6 = 115 then (
  (rc 12 h (some t)).bind fun a22 =>
  (fX12_turnNow N h a22 v4).bind fun r21 =>
  if 0 ≤ v4 then (
  fX12_play_b107 N g66 t r21.2 x2 r21.1 v4)
  else fX12_play_b107 N g66 t r21.2 x2 r21.1 (-v4))
  else (oR 12 40 h (some t)).bind fun o7 =>
  (lA 20 h o7 x2).bind fun v8 =>
  if v8 = 116 then (
  (oR 12 42 h (some t)).bind fun o17 =>
  (lA 20 h o17 x2).bind fun v18 =>
  (rc 12 h (some t)).bind fun a20 =>
  (fX12_tieNow N h a20 v4 v18).bind fun r19 =>
  if 0 ≤ r19.1 then (
  fX12_play_b196 N g66 t r19.2 x2 0)
  else fX12_play_b196 N g66 t r19.2 x2 1)
  else (oR 12 40 h (some t)).bind fun o9 =>
  (lA 20 h o9 x2).bind fun v10 =>
  if v10 = 117 then (
  (rc 12 h (some t)).bind fun a16 =>
  (fX12_untieNow N h a16 v4).bind fun r15 =>
  if r15.1 = (-2000000000) then (
  fX12_play_b196 N g66 t r15.2 x2 1)
  else fX12_play_b196 N g66 t r15.2 x2 0)
  else (oR 12 42 h (some t)).bind fun o11 =>
  (lA 20 h o11 x2).bind fun v12 =>
  (rc 12 h (some t)).bind fun a14 =>
  (fX12_weighNow N h a14 v4 v12).bind fun r13 =>
  if r13.1 = (-2000000000) then (
  fX12_play_b196 N g66 t r13.2 x2 1)
  else fX12_play_b196 N g66 t r13.2 x2 0
noncomputable def fX12_play_b66 (N : Nat)  (t : Nat) (n : Nat) : Hs → Int32 → Option (Int32 × Hs) := lp (fun _ _ => none) (fun g h x2 => fX12_play_b66_body N  g t h x2) n
set_option maxHeartbeats 4000000 in
set_option maxRecDepth 20000 in
theorem wX12_play_b66_body {p : Program} {l : Launch} {e : Env} {s : State} {m : MethodId} {args : Array Value} {below : List Frame} {meth : Method} {c : Code} {G : Gl} {N : Nat} {h : Hs} {r : Int32 × Hs}  {g66 : Hs → Int32 → Option (Int32 × Hs)} {t : Nat} {x2 : Int32} (C : Cx p s m args meth c cX12_play RX12 5 G) (hret : meth.sig.returnType = (some .int))  (hg66 : ∀ (h : Hs) (x2 : Int32), g66 h x2 = some r → V p l e rmX12_play s m args below meth c G 5 (MQ below (QcG G (some (.inl r.1)) r.2) args s rmX12_play.cells rmX12_play.slots (AG G)) h 0 0 66 [some (.inr (some t)), none, some (.inl x2), none, none] []) (hf : fX12_play_b66_body N  g66 t h x2 = some r) : V p l e rmX12_play s m args below meth c G 5 (MQ below (QcG G (some (.inl r.1)) r.2) args s rmX12_play.cells rmX12_play.slots (AG G)) h 0 0 66 [some (.inr (some t)), none, some (.inl x2), none, none] [] := by
  unfold fX12_play_b66_body at hf
  refine r_iload_n C dX12_play_66 rfl ?_
  refine r_aload_n C dX12_play_67 rfl ?_
  obtain ⟨v1, ev1, hf⟩ := bS hf
  refine r_getI C dX12_play_68 fl_X12_258 rfl ev1 ?_
  refine r_icmp_ge (tgt := 215) C dX12_play_71 (by decide) (fun hc => ?_) (fun hc => ?_)
  · have hf := ifT hf hc
    refine r_aload_n C dX12_play_215 rfl ?_
    obtain ⟨v2, ev2, hf⟩ := bS hf
    refine r_getI C dX12_play_216 fl_X12_258 rfl ev2 ?_
    exact r_iretF C dX12_play_219 hret hf (by decide) (by decide)
  · have hf := ifF hf hc
    refine r_aload_n C dX12_play_74 rfl ?_
    obtain ⟨o3, eo3, hf⟩ := bS hf
    refine r_getR C dX12_play_75 fl_X12_98 rfl eo3 ?_
    refine r_iload_n C dX12_play_78 rfl ?_
    obtain ⟨v4, ev4, hf⟩ := bS hf
    refine r_iald C dX12_play_79 ev4 ?_
    refine r_istore_n C dX12_play_80 (by decide) ?_
    refine r_aload_n C dX12_play_81 rfl ?_
    obtain ⟨o5, eo5, hf⟩ := bS hf
    refine r_getR C dX12_play_82 fl_X12_95 rfl eo5 ?_
    refine r_iload_n C dX12_play_85 rfl ?_
    obtain ⟨v6, ev6, hf⟩ := bS hf
    refine r_iald C dX12_play_86 ev6 ?_
    refine r_bipush (v := 115) C dX12_play_87 (by decide) ?_
    refine r_icmp_ne (tgt := 113) C dX12_play_89 (by decide) (fun hc => ?_) (fun hc => ?_)
    · have hf := ifF hf hc
      refine r_aload_n C dX12_play_113 rfl ?_
      obtain ⟨o7, eo7, hf⟩ := bS hf
      refine r_getR C dX12_play_114 fl_X12_95 rfl eo7 ?_
      refine r_iload_n C dX12_play_117 rfl ?_
      obtain ⟨v8, ev8, hf⟩ := bS hf
      refine r_iald C dX12_play_118 ev8 ?_
      refine r_bipush (v := 116) C dX12_play_119 (by decide) ?_
      refine r_icmp_ne (tgt := 146) C dX12_play_121 (by decide) (fun hc => ?_) (fun hc => ?_)
      · have hf := ifF hf hc
        refine r_aload_n C dX12_play_146 rfl ?_
        obtain ⟨o9, eo9, hf⟩ := bS hf
        refine r_getR C dX12_play_147 fl_X12_95 rfl eo9 ?_
        refine r_iload_n C dX12_play_150 rfl ?_
        obtain ⟨v10, ev10, hf⟩ := bS hf
        refine r_iald C dX12_play_151 ev10 ?_
        refine r_bipush (v := 117) C dX12_play_152 (by decide) ?_
        refine r_icmp_ne (tgt := 175) C dX12_play_154 (by decide) (fun hc => ?_) (fun hc => ?_)
        · have hf := ifF hf hc
          refine r_aload_n C dX12_play_175 rfl ?_
          refine r_iload_n C dX12_play_176 rfl ?_
          refine r_aload_n C dX12_play_177 rfl ?_
          obtain ⟨o11, eo11, hf⟩ := bS hf
          refine r_getR C dX12_play_178 fl_X12_101 rfl eo11 ?_
          refine r_iload_n C dX12_play_181 rfl ?_
          obtain ⟨v12, ev12, hf⟩ := bS hf
          refine r_iald C dX12_play_182 ev12 ?_
          obtain ⟨a14, ea14, hf⟩ := bS hf
          obtain ⟨r13, er13, hf⟩ := bS hf
          refine r_invV1 (As := [.inl v4, .inl v12]) (ci := 12) C dX12_play_183 mcX12_weighNow wd_1249 wd_1251 wp_38 rfl rfl (by decide) ⟨by decide, by decide⟩ ⟨by decide, by decide⟩ rfl (Nat.le_of_ble_eq_true rfl) ea14 (kX12_weighNow l G er13) ?_
          refine r_ldc C dX12_play_186 wd_1220 ?_
          refine r_icmp_ne (tgt := 195) C dX12_play_188 (by decide) (fun hc => ?_) (fun hc => ?_)
          · have hf := ifF hf hc
            refine r_iconst (v := 0) C dX12_play_195 (by decide) ?_
            exact V.sub (wX12_play_b196 C hret hg66 hf) (LW_s rfl (LW_n (LW_s rfl (LW_n (LW_n (LW_e))))))
          · have hf := ifT hf hc
            refine r_iconst (v := 1) C dX12_play_191 (by decide) ?_
            refine r_goto (tgt := 196) C dX12_play_192 (by decide) ?_
            exact V.sub (wX12_play_b196 C hret hg66 hf) (LW_s rfl (LW_n (LW_s rfl (LW_n (LW_n (LW_e))))))
        · have hf := ifT hf hc
          refine r_aload_n C dX12_play_157 rfl ?_
          refine r_iload_n C dX12_play_158 rfl ?_
          obtain ⟨a16, ea16, hf⟩ := bS hf
          obtain ⟨r15, er15, hf⟩ := bS hf
          refine r_invV1 (As := [.inl v4]) (ci := 12) C dX12_play_159 mcX12_untieNow wd_1241 wd_1243 wp_37 rfl rfl (by decide) ⟨by decide, by decide⟩ ⟨by decide, by decide⟩ rfl (Nat.le_of_ble_eq_true rfl) ea16 (kX12_untieNow l G er15) ?_
          refine r_ldc C dX12_play_162 wd_1220 ?_
          refine r_icmp_ne (tgt := 171) C dX12_play_164 (by decide) (fun hc => ?_) (fun hc => ?_)
          · have hf := ifF hf hc
            refine r_iconst (v := 0) C dX12_play_171 (by decide) ?_
            refine r_goto (tgt := 196) C dX12_play_172 (by decide) ?_
            exact V.sub (wX12_play_b196 C hret hg66 hf) (LW_s rfl (LW_n (LW_s rfl (LW_n (LW_n (LW_e))))))
          · have hf := ifT hf hc
            refine r_iconst (v := 1) C dX12_play_167 (by decide) ?_
            refine r_goto (tgt := 196) C dX12_play_168 (by decide) ?_
            exact V.sub (wX12_play_b196 C hret hg66 hf) (LW_s rfl (LW_n (LW_s rfl (LW_n (LW_n (LW_e))))))
      · have hf := ifT hf hc
        refine r_aload_n C dX12_play_124 rfl ?_
        refine r_iload_n C dX12_play_125 rfl ?_
        refine r_aload_n C dX12_play_126 rfl ?_
        obtain ⟨o17, eo17, hf⟩ := bS hf
        refine r_getR C dX12_play_127 fl_X12_101 rfl eo17 ?_
        refine r_iload_n C dX12_play_130 rfl ?_
        obtain ⟨v18, ev18, hf⟩ := bS hf
        refine r_iald C dX12_play_131 ev18 ?_
        obtain ⟨a20, ea20, hf⟩ := bS hf
        obtain ⟨r19, er19, hf⟩ := bS hf
        refine r_invV1 (As := [.inl v4, .inl v18]) (ci := 12) C dX12_play_132 mcX12_tieNow wd_1229 wd_1231 wp_35 rfl rfl (by decide) ⟨by decide, by decide⟩ ⟨by decide, by decide⟩ rfl (Nat.le_of_ble_eq_true rfl) ea20 (kX12_tieNow l G er19) ?_
        refine r_if_ge (tgt := 142) C dX12_play_135 (by decide) (fun hc => ?_) (fun hc => ?_)
        · have hf := ifT hf hc
          refine r_iconst (v := 0) C dX12_play_142 (by decide) ?_
          refine r_goto (tgt := 196) C dX12_play_143 (by decide) ?_
          exact V.sub (wX12_play_b196 C hret hg66 hf) (LW_s rfl (LW_n (LW_s rfl (LW_n (LW_n (LW_e))))))
        · have hf := ifF hf hc
          refine r_iconst (v := 1) C dX12_play_138 (by decide) ?_
          refine r_goto (tgt := 196) C dX12_play_139 (by decide) ?_
          exact V.sub (wX12_play_b196 C hret hg66 hf) (LW_s rfl (LW_n (LW_s rfl (LW_n (LW_n (LW_e))))))
    · have hf := ifT hf hc
      refine r_aload_n C dX12_play_92 rfl ?_
      refine r_iload_n C dX12_play_93 rfl ?_
      obtain ⟨a22, ea22, hf⟩ := bS hf
      obtain ⟨r21, er21, hf⟩ := bS hf
      refine r_invV1 (As := [.inl v4]) (ci := 12) C dX12_play_94 mcX12_turnNow wd_1268 wd_1270 wp_39 rfl rfl (by decide) ⟨by decide, by decide⟩ ⟨by decide, by decide⟩ rfl (Nat.le_of_ble_eq_true rfl) ea22 (kX12_turnNow l G er21) ?_
      refine r_iload_n C dX12_play_97 rfl ?_
      refine r_if_ge (tgt := 106) C dX12_play_98 (by decide) (fun hc => ?_) (fun hc => ?_)
      · have hf := ifT hf hc
        refine r_iload_n C dX12_play_106 rfl ?_
        exact V.sub (wX12_play_b107 C hret hg66 hf) (LW_s rfl (LW_n (LW_s rfl (LW_n (LW_n (LW_e))))))
      · have hf := ifF hf hc
        refine r_iload_n C dX12_play_101 rfl ?_
        refine r_ineg C dX12_play_102 ?_
        refine r_goto (tgt := 107) C dX12_play_103 (by decide) ?_
        exact V.sub (wX12_play_b107 C hret hg66 hf) (LW_s rfl (LW_n (LW_s rfl (LW_n (LW_n (LW_e))))))
theorem wX12_play_b66 {p : Program} {l : Launch} {e : Env} {s : State} {m : MethodId} {args : Array Value} {below : List Frame} {meth : Method} {c : Code} {G : Gl} {N : Nat} {r : Int32 × Hs}  {t : Nat} (C : Cx p s m args meth c cX12_play RX12 5 G) (hret : meth.sig.returnType = (some .int))  : ∀ (n : Nat) (h : Hs) (x2 : Int32), fX12_play_b66 N  t n h x2 = some r → V p l e rmX12_play s m args below meth c G 5 (MQ below (QcG G (some (.inl r.1)) r.2) args s rmX12_play.cells rmX12_play.slots (AG G)) h 0 0 66 [some (.inr (some t)), none, some (.inl x2), none, none] [] := by
  intro n
  induction n with
  | zero => intro h x2 hf; exact absurd (show (none : Option (Int32 × Hs)) = some r from hf) (fun q => by cases q)
  | succ n ih => intro h x2 hf; exact wX12_play_b66_body C hret  ih (show fX12_play_b66_body N  (fX12_play_b66 N  t n) t h x2 = some r from hf)
noncomputable def fX12_play_b38 (N : Nat)  (t : Nat) (h : Hs) (x1 : Int32) : Option (Int32 × Hs) :=
  (qI 12 37 h (some t) 0).bind fun h1 =>
  if x1 = 0 then (
  (oI 12 38 h1 (some t)).bind fun v5 =>
  some ((-100) - v5, h1))
  else (rc 12 h1 (some t)).bind fun a3 =>
  (fX12_keep N h1 a3 ).bind fun r2 =>
  (qZ 12 43 r2 (some t) 1).bind fun h4 =>
  fX12_play_b66 N t N h4 0
set_option maxHeartbeats 4000000 in
set_option maxRecDepth 20000 in
theorem wX12_play_b38 {p : Program} {l : Launch} {e : Env} {s : State} {m : MethodId} {args : Array Value} {below : List Frame} {meth : Method} {c : Code} {G : Gl} {N : Nat} {h : Hs} {r : Int32 × Hs}  {t : Nat} {x1 : Int32} (C : Cx p s m args meth c cX12_play RX12 5 G) (hret : meth.sig.returnType = (some .int))  (hf : fX12_play_b38 N  t h x1 = some r) : V p l e rmX12_play s m args below meth c G 5 (MQ below (QcG G (some (.inl r.1)) r.2) args s rmX12_play.cells rmX12_play.slots (AG G)) h 0 0 38 [some (.inr (some t)), some (.inl x1), none, none, none] [] := by
  unfold fX12_play_b38 at hf
  refine r_aload_n C dX12_play_38 rfl ?_
  refine r_iconst (v := 0) C dX12_play_39 (by decide) ?_
  obtain ⟨h1, eh1, hf⟩ := bS hf
  refine r_putI C dX12_play_40 fl_X12_246 (Or.inl fn_12_37) rfl eh1 ?_
  refine r_iload_n C dX12_play_43 rfl ?_
  refine r_if_ne (tgt := 55) C dX12_play_44 (by decide) (fun hc => ?_) (fun hc => ?_)
  · have hf := ifF hf hc
    refine r_aload_n C dX12_play_55 rfl ?_
    obtain ⟨a3, ea3, hf⟩ := bS hf
    obtain ⟨r2, er2, hf⟩ := bS hf
    refine r_invV0 (As := []) (ci := 12) C dX12_play_56 mcX12_keep wd_1361 wd_1363 wp_51 rfl rfl (by decide) ⟨by decide, by decide⟩ ⟨by decide, by decide⟩ rfl (Nat.le_of_ble_eq_true rfl) ea3 (kX12_keep l G er2) ?_
    refine r_aload_n C dX12_play_59 rfl ?_
    refine r_iconst (v := 1) C dX12_play_60 (by decide) ?_
    obtain ⟨h4, eh4, hf⟩ := bS hf
    refine r_putZ C dX12_play_61 fl_X12_162 (Or.inl fn_12_43) rfl eh4 ?_
    refine r_iconst (v := 0) C dX12_play_64 (by decide) ?_
    refine r_istore_n C dX12_play_65 (by decide) ?_
    exact V.sub (wX12_play_b66 C hret N _ _ hf) (LW_s rfl (LW_n (LW_s rfl (LW_n (LW_n (LW_e))))))
  · have hf := ifT hf hc
    refine r_bipush (v := -100) C dX12_play_47 (by decide) ?_
    refine r_aload_n C dX12_play_49 rfl ?_
    obtain ⟨v5, ev5, hf⟩ := bS hf
    refine r_getI C dX12_play_50 fl_X12_249 rfl ev5 ?_
    refine r_isub C dX12_play_53 ?_
    exact r_iretF C dX12_play_54 hret hf (by decide) (by decide)
noncomputable def fX12_play_b15_body (N : Nat)  (g15 : Hs → Int32 → Option (Int32 × Hs)) (t : Nat) (h : Hs) (x1 : Int32) : Option (Int32 × Hs) :=
  if x1 = 0 then (
  fX12_play_b38 N t h x1)
  else (oI 12 38 h (some t)).bind fun v1 =>
  (oI 12 37 h (some t)).bind fun v2 =>
  if v2 ≤ v1 then (
  fX12_play_b38 N t h x1)
  else (rc 12 h (some t)).bind fun a4 =>
  (fX12_line N h a4 ).bind fun r3 =>
  g15 r3.2 r3.1
noncomputable def fX12_play_b15 (N : Nat)  (t : Nat) (n : Nat) : Hs → Int32 → Option (Int32 × Hs) := lp (fun _ _ => none) (fun g h x1 => fX12_play_b15_body N  g t h x1) n
set_option maxHeartbeats 4000000 in
set_option maxRecDepth 20000 in
theorem wX12_play_b15_body {p : Program} {l : Launch} {e : Env} {s : State} {m : MethodId} {args : Array Value} {below : List Frame} {meth : Method} {c : Code} {G : Gl} {N : Nat} {h : Hs} {r : Int32 × Hs}  {g15 : Hs → Int32 → Option (Int32 × Hs)} {t : Nat} {x1 : Int32} (C : Cx p s m args meth c cX12_play RX12 5 G) (hret : meth.sig.returnType = (some .int))  (hg15 : ∀ (h : Hs) (x1 : Int32), g15 h x1 = some r → V p l e rmX12_play s m args below meth c G 5 (MQ below (QcG G (some (.inl r.1)) r.2) args s rmX12_play.cells rmX12_play.slots (AG G)) h 0 0 15 [some (.inr (some t)), some (.inl x1), none, none, none] []) (hf : fX12_play_b15_body N  g15 t h x1 = some r) : V p l e rmX12_play s m args below meth c G 5 (MQ below (QcG G (some (.inl r.1)) r.2) args s rmX12_play.cells rmX12_play.slots (AG G)) h 0 0 15 [some (.inr (some t)), some (.inl x1), none, none, none] [] := by
  unfold fX12_play_b15_body at hf
  refine r_iload_n C dX12_play_15 rfl ?_
  refine r_if_eq (tgt := 38) C dX12_play_16 (by decide) (fun hc => ?_) (fun hc => ?_)
  · have hf := ifT hf hc
    exact V.sub (wX12_play_b38 C hret hf) (LW_s rfl (LW_s rfl (LW_n (LW_n (LW_n (LW_e))))))
  · have hf := ifF hf hc
    refine r_aload_n C dX12_play_19 rfl ?_
    obtain ⟨v1, ev1, hf⟩ := bS hf
    refine r_getI C dX12_play_20 fl_X12_249 rfl ev1 ?_
    refine r_aload_n C dX12_play_23 rfl ?_
    obtain ⟨v2, ev2, hf⟩ := bS hf
    refine r_getI C dX12_play_24 fl_X12_246 rfl ev2 ?_
    refine r_icmp_ge (tgt := 38) C dX12_play_27 (by decide) (fun hc => ?_) (fun hc => ?_)
    · have hf := ifT hf hc
      exact V.sub (wX12_play_b38 C hret hf) (LW_s rfl (LW_s rfl (LW_n (LW_n (LW_n (LW_e))))))
    · have hf := ifF hf hc
      refine r_aload_n C dX12_play_30 rfl ?_
      obtain ⟨a4, ea4, hf⟩ := bS hf
      obtain ⟨r3, er3, hf⟩ := bS hf
      refine r_invV1 (As := []) (ci := 12) C dX12_play_31 mcX12_line wd_1349 wd_1351 wp_48 rfl rfl (by decide) ⟨by decide, by decide⟩ ⟨by decide, by decide⟩ rfl (Nat.le_of_ble_eq_true rfl) ea4 (kX12_line l G er3) ?_
      refine r_istore_n C dX12_play_34 (by decide) ?_
      refine r_goto (tgt := 15) C dX12_play_35 (by decide) ?_
      exact V.sub (hg15 _ _ hf) (LW_s rfl (LW_s rfl (LW_n (LW_n (LW_n (LW_e))))))
theorem wX12_play_b15 {p : Program} {l : Launch} {e : Env} {s : State} {m : MethodId} {args : Array Value} {below : List Frame} {meth : Method} {c : Code} {G : Gl} {N : Nat} {r : Int32 × Hs}  {t : Nat} (C : Cx p s m args meth c cX12_play RX12 5 G) (hret : meth.sig.returnType = (some .int))  : ∀ (n : Nat) (h : Hs) (x1 : Int32), fX12_play_b15 N  t n h x1 = some r → V p l e rmX12_play s m args below meth c G 5 (MQ below (QcG G (some (.inl r.1)) r.2) args s rmX12_play.cells rmX12_play.slots (AG G)) h 0 0 15 [some (.inr (some t)), some (.inl x1), none, none, none] [] := by
  intro n
  induction n with
  | zero => intro h x1 hf; exact absurd (show (none : Option (Int32 × Hs)) = some r from hf) (fun q => by cases q)
  | succ n ih => intro h x1 hf; exact wX12_play_b15_body C hret  ih (show fX12_play_b15_body N  (fX12_play_b15 N  t n) t h x1 = some r from hf)
noncomputable def fX12_play (N : Nat) (h : Hs) (t : Nat)  : Option (Int32 × Hs) :=
  (qI 12 38 h (some t) 0).bind fun h1 =>
  (qI 12 39 h1 (some t) 0).bind fun h2 =>
  (rc 12 h2 (some t)).bind fun a4 =>
  (fX12_line N h2 a4 ).bind fun r3 =>
  fX12_play_b15 N t N r3.2 r3.1
set_option maxHeartbeats 4000000 in
set_option maxRecDepth 20000 in
theorem kX12_play (l : Launch) (G : Gl) {N : Nat} {h : Hs} {t : Nat}  {r : Int32 × Hs} (hf : fX12_play N h t  = some r) : CT l G yX12_play cX12_play 5 (some .int) rmX12_play [.inr (some t)] h (some (.inl r.1)) r.2 := by
  refine mk_CT (by decide) (Nat.le_of_ble_eq_true rfl) ?_
  intro p e s m args below meth c C hret hin
  unfold fX12_play at hf
  refine r_aload_n C dX12_play_0 rfl ?_
  refine r_iconst (v := 0) C dX12_play_1 (by decide) ?_
  obtain ⟨h1, eh1, hf⟩ := bS hf
  refine r_putI C dX12_play_2 fl_X12_249 (Or.inl fn_12_38) rfl eh1 ?_
  refine r_aload_n C dX12_play_5 rfl ?_
  refine r_iconst (v := 0) C dX12_play_6 (by decide) ?_
  obtain ⟨h2, eh2, hf⟩ := bS hf
  refine r_putI C dX12_play_7 fl_X12_258 (Or.inl fn_12_39) rfl eh2 ?_
  refine r_aload_n C dX12_play_10 rfl ?_
  obtain ⟨a4, ea4, hf⟩ := bS hf
  obtain ⟨r3, er3, hf⟩ := bS hf
  refine r_invV1 (As := []) (ci := 12) C dX12_play_11 mcX12_line wd_1349 wd_1351 wp_48 rfl rfl (by decide) ⟨by decide, by decide⟩ ⟨by decide, by decide⟩ rfl (Nat.le_of_ble_eq_true rfl) ea4 (kX12_line l G er3) ?_
  refine r_istore_n C dX12_play_14 (by decide) ?_
  exact V.sub (wX12_play_b15 C hret N _ _ hf) (LW_s rfl (LW_s rfl (LW_n (LW_n (LW_n (LW_e))))))

theorem dgX12_back_0 : (decode cX12_back 0 = .ok (.aload_n 0, 1)) ∧ (decode cX12_back 1 = .ok (.getfield 162, 3)) ∧ (decode cX12_back 4 = .ok (.ifCond .ne 6, 3)) ∧ (decode cX12_back 7 = .ok (.bipush (-2), 2)) ∧ (decode cX12_back 9 = .ok (.ireturn, 1)) ∧ (decode cX12_back 10 = .ok (.aload_n 0, 1)) ∧ (decode cX12_back 11 = .ok (.iconst 0, 1)) ∧ (decode cX12_back 12 = .ok (.putfield 162, 3)) ∧ (decode cX12_back 15 = .ok (.iconst 0, 1)) ∧ (decode cX12_back 16 = .ok (.istore_n 1, 1)) ∧ (decode cX12_back 17 = .ok (.iload_n 1, 1)) ∧ (decode cX12_back 18 = .ok (.aload_n 0, 1)) ∧ True := dkW [(0, .aload_n 0, 1), (1, .getfield 162, 3), (4, .ifCond .ne 6, 3), (7, .bipush (-2), 2), (9, .ireturn, 1), (10, .aload_n 0, 1), (11, .iconst 0, 1), (12, .putfield 162, 3), (15, .iconst 0, 1), (16, .istore_n 1, 1), (17, .iload_n 1, 1), (18, .aload_n 0, 1)] 0 (by decide +kernel)
theorem dX12_back_0 : decode cX12_back 0 = .ok (.aload_n 0, 1) := dgX12_back_0.1
theorem dX12_back_1 : decode cX12_back 1 = .ok (.getfield 162, 3) := dgX12_back_0.2.1
theorem dX12_back_4 : decode cX12_back 4 = .ok (.ifCond .ne 6, 3) := dgX12_back_0.2.2.1
theorem dX12_back_7 : decode cX12_back 7 = .ok (.bipush (-2), 2) := dgX12_back_0.2.2.2.1
theorem dX12_back_9 : decode cX12_back 9 = .ok (.ireturn, 1) := dgX12_back_0.2.2.2.2.1
theorem dX12_back_10 : decode cX12_back 10 = .ok (.aload_n 0, 1) := dgX12_back_0.2.2.2.2.2.1
theorem dX12_back_11 : decode cX12_back 11 = .ok (.iconst 0, 1) := dgX12_back_0.2.2.2.2.2.2.1
theorem dX12_back_12 : decode cX12_back 12 = .ok (.putfield 162, 3) := dgX12_back_0.2.2.2.2.2.2.2.1
theorem dX12_back_15 : decode cX12_back 15 = .ok (.iconst 0, 1) := dgX12_back_0.2.2.2.2.2.2.2.2.1
theorem dX12_back_16 : decode cX12_back 16 = .ok (.istore_n 1, 1) := dgX12_back_0.2.2.2.2.2.2.2.2.2.1
theorem dX12_back_17 : decode cX12_back 17 = .ok (.iload_n 1, 1) := dgX12_back_0.2.2.2.2.2.2.2.2.2.2.1
theorem dX12_back_18 : decode cX12_back 18 = .ok (.aload_n 0, 1) := dgX12_back_0.2.2.2.2.2.2.2.2.2.2.2.1
theorem dgX12_back_19 : (decode cX12_back 19 = .ok (.getfield 146, 3)) ∧ (decode cX12_back 22 = .ok (.if_icmp .ge 33, 3)) ∧ (decode cX12_back 25 = .ok (.aload_n 0, 1)) ∧ (decode cX12_back 26 = .ok (.getfield 19, 3)) ∧ (decode cX12_back 29 = .ok (.iload_n 1, 1)) ∧ (decode cX12_back 30 = .ok (.aload_n 0, 1)) ∧ (decode cX12_back 31 = .ok (.getfield 104, 3)) ∧ (decode cX12_back 34 = .ok (.iload_n 1, 1)) ∧ (decode cX12_back 35 = .ok (.iaload, 1)) ∧ (decode cX12_back 36 = .ok (.iastore, 1)) ∧ (decode cX12_back 37 = .ok (.aload_n 0, 1)) ∧ (decode cX12_back 38 = .ok (.getfield 28, 3)) ∧ True := dkW [(19, .getfield 146, 3), (22, .if_icmp .ge 33, 3), (25, .aload_n 0, 1), (26, .getfield 19, 3), (29, .iload_n 1, 1), (30, .aload_n 0, 1), (31, .getfield 104, 3), (34, .iload_n 1, 1), (35, .iaload, 1), (36, .iastore, 1), (37, .aload_n 0, 1), (38, .getfield 28, 3)] 19 (by decide +kernel)
theorem dX12_back_19 : decode cX12_back 19 = .ok (.getfield 146, 3) := dgX12_back_19.1
theorem dX12_back_22 : decode cX12_back 22 = .ok (.if_icmp .ge 33, 3) := dgX12_back_19.2.1
theorem dX12_back_25 : decode cX12_back 25 = .ok (.aload_n 0, 1) := dgX12_back_19.2.2.1
theorem dX12_back_26 : decode cX12_back 26 = .ok (.getfield 19, 3) := dgX12_back_19.2.2.2.1
theorem dX12_back_29 : decode cX12_back 29 = .ok (.iload_n 1, 1) := dgX12_back_19.2.2.2.2.1
theorem dX12_back_30 : decode cX12_back 30 = .ok (.aload_n 0, 1) := dgX12_back_19.2.2.2.2.2.1
theorem dX12_back_31 : decode cX12_back 31 = .ok (.getfield 104, 3) := dgX12_back_19.2.2.2.2.2.2.1
theorem dX12_back_34 : decode cX12_back 34 = .ok (.iload_n 1, 1) := dgX12_back_19.2.2.2.2.2.2.2.1
theorem dX12_back_35 : decode cX12_back 35 = .ok (.iaload, 1) := dgX12_back_19.2.2.2.2.2.2.2.2.1
theorem dX12_back_36 : decode cX12_back 36 = .ok (.iastore, 1) := dgX12_back_19.2.2.2.2.2.2.2.2.2.1
theorem dX12_back_37 : decode cX12_back 37 = .ok (.aload_n 0, 1) := dgX12_back_19.2.2.2.2.2.2.2.2.2.2.1
theorem dX12_back_38 : decode cX12_back 38 = .ok (.getfield 28, 3) := dgX12_back_19.2.2.2.2.2.2.2.2.2.2.2.1
theorem dgX12_back_41 : (decode cX12_back 41 = .ok (.iload_n 1, 1)) ∧ (decode cX12_back 42 = .ok (.aload_n 0, 1)) ∧ (decode cX12_back 43 = .ok (.getfield 107, 3)) ∧ (decode cX12_back 46 = .ok (.iload_n 1, 1)) ∧ (decode cX12_back 47 = .ok (.iaload, 1)) ∧ (decode cX12_back 48 = .ok (.iastore, 1)) ∧ (decode cX12_back 49 = .ok (.iinc 1 1, 3)) ∧ (decode cX12_back 52 = .ok (.goto (-35), 3)) ∧ (decode cX12_back 55 = .ok (.iconst 0, 1)) ∧ (decode cX12_back 56 = .ok (.istore_n 1, 1)) ∧ (decode cX12_back 57 = .ok (.iload_n 1, 1)) ∧ (decode cX12_back 58 = .ok (.aload_n 0, 1)) ∧ True := dkW [(41, .iload_n 1, 1), (42, .aload_n 0, 1), (43, .getfield 107, 3), (46, .iload_n 1, 1), (47, .iaload, 1), (48, .iastore, 1), (49, .iinc 1 1, 3), (52, .goto (-35), 3), (55, .iconst 0, 1), (56, .istore_n 1, 1), (57, .iload_n 1, 1), (58, .aload_n 0, 1)] 41 (by decide +kernel)
theorem dX12_back_41 : decode cX12_back 41 = .ok (.iload_n 1, 1) := dgX12_back_41.1
theorem dX12_back_42 : decode cX12_back 42 = .ok (.aload_n 0, 1) := dgX12_back_41.2.1
theorem dX12_back_43 : decode cX12_back 43 = .ok (.getfield 107, 3) := dgX12_back_41.2.2.1
theorem dX12_back_46 : decode cX12_back 46 = .ok (.iload_n 1, 1) := dgX12_back_41.2.2.2.1
theorem dX12_back_47 : decode cX12_back 47 = .ok (.iaload, 1) := dgX12_back_41.2.2.2.2.1
theorem dX12_back_48 : decode cX12_back 48 = .ok (.iastore, 1) := dgX12_back_41.2.2.2.2.2.1
theorem dX12_back_49 : decode cX12_back 49 = .ok (.iinc 1 1, 3) := dgX12_back_41.2.2.2.2.2.2.1
theorem dX12_back_52 : decode cX12_back 52 = .ok (.goto (-35), 3) := dgX12_back_41.2.2.2.2.2.2.2.1
theorem dX12_back_55 : decode cX12_back 55 = .ok (.iconst 0, 1) := dgX12_back_41.2.2.2.2.2.2.2.2.1
theorem dX12_back_56 : decode cX12_back 56 = .ok (.istore_n 1, 1) := dgX12_back_41.2.2.2.2.2.2.2.2.2.1
theorem dX12_back_57 : decode cX12_back 57 = .ok (.iload_n 1, 1) := dgX12_back_41.2.2.2.2.2.2.2.2.2.2.1
theorem dX12_back_58 : decode cX12_back 58 = .ok (.aload_n 0, 1) := dgX12_back_41.2.2.2.2.2.2.2.2.2.2.2.1
theorem dgX12_back_59 : (decode cX12_back 59 = .ok (.getfield 153, 3)) ∧ (decode cX12_back 62 = .ok (.if_icmp .ge 33, 3)) ∧ (decode cX12_back 65 = .ok (.aload_n 0, 1)) ∧ (decode cX12_back 66 = .ok (.getfield 46, 3)) ∧ (decode cX12_back 69 = .ok (.iload_n 1, 1)) ∧ (decode cX12_back 70 = .ok (.aload_n 0, 1)) ∧ (decode cX12_back 71 = .ok (.getfield 110, 3)) ∧ (decode cX12_back 74 = .ok (.iload_n 1, 1)) ∧ (decode cX12_back 75 = .ok (.iaload, 1)) ∧ (decode cX12_back 76 = .ok (.iastore, 1)) ∧ (decode cX12_back 77 = .ok (.aload_n 0, 1)) ∧ (decode cX12_back 78 = .ok (.getfield 49, 3)) ∧ True := dkW [(59, .getfield 153, 3), (62, .if_icmp .ge 33, 3), (65, .aload_n 0, 1), (66, .getfield 46, 3), (69, .iload_n 1, 1), (70, .aload_n 0, 1), (71, .getfield 110, 3), (74, .iload_n 1, 1), (75, .iaload, 1), (76, .iastore, 1), (77, .aload_n 0, 1), (78, .getfield 49, 3)] 59 (by decide +kernel)
theorem dX12_back_59 : decode cX12_back 59 = .ok (.getfield 153, 3) := dgX12_back_59.1
theorem dX12_back_62 : decode cX12_back 62 = .ok (.if_icmp .ge 33, 3) := dgX12_back_59.2.1
theorem dX12_back_65 : decode cX12_back 65 = .ok (.aload_n 0, 1) := dgX12_back_59.2.2.1
theorem dX12_back_66 : decode cX12_back 66 = .ok (.getfield 46, 3) := dgX12_back_59.2.2.2.1
theorem dX12_back_69 : decode cX12_back 69 = .ok (.iload_n 1, 1) := dgX12_back_59.2.2.2.2.1
theorem dX12_back_70 : decode cX12_back 70 = .ok (.aload_n 0, 1) := dgX12_back_59.2.2.2.2.2.1
theorem dX12_back_71 : decode cX12_back 71 = .ok (.getfield 110, 3) := dgX12_back_59.2.2.2.2.2.2.1
theorem dX12_back_74 : decode cX12_back 74 = .ok (.iload_n 1, 1) := dgX12_back_59.2.2.2.2.2.2.2.1
theorem dX12_back_75 : decode cX12_back 75 = .ok (.iaload, 1) := dgX12_back_59.2.2.2.2.2.2.2.2.1
theorem dX12_back_76 : decode cX12_back 76 = .ok (.iastore, 1) := dgX12_back_59.2.2.2.2.2.2.2.2.2.1
theorem dX12_back_77 : decode cX12_back 77 = .ok (.aload_n 0, 1) := dgX12_back_59.2.2.2.2.2.2.2.2.2.2.1
theorem dX12_back_78 : decode cX12_back 78 = .ok (.getfield 49, 3) := dgX12_back_59.2.2.2.2.2.2.2.2.2.2.2.1
theorem dgX12_back_81 : (decode cX12_back 81 = .ok (.iload_n 1, 1)) ∧ (decode cX12_back 82 = .ok (.aload_n 0, 1)) ∧ (decode cX12_back 83 = .ok (.getfield 113, 3)) ∧ (decode cX12_back 86 = .ok (.iload_n 1, 1)) ∧ (decode cX12_back 87 = .ok (.iaload, 1)) ∧ (decode cX12_back 88 = .ok (.iastore, 1)) ∧ (decode cX12_back 89 = .ok (.iinc 1 1, 3)) ∧ (decode cX12_back 92 = .ok (.goto (-35), 3)) ∧ (decode cX12_back 95 = .ok (.iconst 0, 1)) ∧ (decode cX12_back 96 = .ok (.istore_n 1, 1)) ∧ (decode cX12_back 97 = .ok (.iload_n 1, 1)) ∧ (decode cX12_back 98 = .ok (.bipush 20, 2)) ∧ True := dkW [(81, .iload_n 1, 1), (82, .aload_n 0, 1), (83, .getfield 113, 3), (86, .iload_n 1, 1), (87, .iaload, 1), (88, .iastore, 1), (89, .iinc 1 1, 3), (92, .goto (-35), 3), (95, .iconst 0, 1), (96, .istore_n 1, 1), (97, .iload_n 1, 1), (98, .bipush 20, 2)] 81 (by decide +kernel)
theorem dX12_back_81 : decode cX12_back 81 = .ok (.iload_n 1, 1) := dgX12_back_81.1
theorem dX12_back_82 : decode cX12_back 82 = .ok (.aload_n 0, 1) := dgX12_back_81.2.1
theorem dX12_back_83 : decode cX12_back 83 = .ok (.getfield 113, 3) := dgX12_back_81.2.2.1
theorem dX12_back_86 : decode cX12_back 86 = .ok (.iload_n 1, 1) := dgX12_back_81.2.2.2.1
theorem dX12_back_87 : decode cX12_back 87 = .ok (.iaload, 1) := dgX12_back_81.2.2.2.2.1
theorem dX12_back_88 : decode cX12_back 88 = .ok (.iastore, 1) := dgX12_back_81.2.2.2.2.2.1
theorem dX12_back_89 : decode cX12_back 89 = .ok (.iinc 1 1, 3) := dgX12_back_81.2.2.2.2.2.2.1
theorem dX12_back_92 : decode cX12_back 92 = .ok (.goto (-35), 3) := dgX12_back_81.2.2.2.2.2.2.2.1
theorem dX12_back_95 : decode cX12_back 95 = .ok (.iconst 0, 1) := dgX12_back_81.2.2.2.2.2.2.2.2.1
theorem dX12_back_96 : decode cX12_back 96 = .ok (.istore_n 1, 1) := dgX12_back_81.2.2.2.2.2.2.2.2.2.1
theorem dX12_back_97 : decode cX12_back 97 = .ok (.iload_n 1, 1) := dgX12_back_81.2.2.2.2.2.2.2.2.2.2.1
theorem dX12_back_98 : decode cX12_back 98 = .ok (.bipush 20, 2) := dgX12_back_81.2.2.2.2.2.2.2.2.2.2.2.1
theorem dgX12_back_100 : (decode cX12_back 100 = .ok (.if_icmp .ge 21, 3)) ∧ (decode cX12_back 103 = .ok (.aload_n 0, 1)) ∧ (decode cX12_back 104 = .ok (.getfield 56, 3)) ∧ (decode cX12_back 107 = .ok (.iload_n 1, 1)) ∧ (decode cX12_back 108 = .ok (.aload_n 0, 1)) ∧ (decode cX12_back 109 = .ok (.getfield 116, 3)) ∧ (decode cX12_back 112 = .ok (.iload_n 1, 1)) ∧ (decode cX12_back 113 = .ok (.iaload, 1)) ∧ (decode cX12_back 114 = .ok (.iastore, 1)) ∧ (decode cX12_back 115 = .ok (.iinc 1 1, 3)) ∧ (decode cX12_back 118 = .ok (.goto (-21), 3)) ∧ (decode cX12_back 121 = .ok (.aload_n 0, 1)) ∧ True := dkW [(100, .if_icmp .ge 21, 3), (103, .aload_n 0, 1), (104, .getfield 56, 3), (107, .iload_n 1, 1), (108, .aload_n 0, 1), (109, .getfield 116, 3), (112, .iload_n 1, 1), (113, .iaload, 1), (114, .iastore, 1), (115, .iinc 1 1, 3), (118, .goto (-21), 3), (121, .aload_n 0, 1)] 100 (by decide +kernel)
theorem dX12_back_100 : decode cX12_back 100 = .ok (.if_icmp .ge 21, 3) := dgX12_back_100.1
theorem dX12_back_103 : decode cX12_back 103 = .ok (.aload_n 0, 1) := dgX12_back_100.2.1
theorem dX12_back_104 : decode cX12_back 104 = .ok (.getfield 56, 3) := dgX12_back_100.2.2.1
theorem dX12_back_107 : decode cX12_back 107 = .ok (.iload_n 1, 1) := dgX12_back_100.2.2.2.1
theorem dX12_back_108 : decode cX12_back 108 = .ok (.aload_n 0, 1) := dgX12_back_100.2.2.2.2.1
theorem dX12_back_109 : decode cX12_back 109 = .ok (.getfield 116, 3) := dgX12_back_100.2.2.2.2.2.1
theorem dX12_back_112 : decode cX12_back 112 = .ok (.iload_n 1, 1) := dgX12_back_100.2.2.2.2.2.2.1
theorem dX12_back_113 : decode cX12_back 113 = .ok (.iaload, 1) := dgX12_back_100.2.2.2.2.2.2.2.1
theorem dX12_back_114 : decode cX12_back 114 = .ok (.iastore, 1) := dgX12_back_100.2.2.2.2.2.2.2.2.1
theorem dX12_back_115 : decode cX12_back 115 = .ok (.iinc 1 1, 3) := dgX12_back_100.2.2.2.2.2.2.2.2.2.1
theorem dX12_back_118 : decode cX12_back 118 = .ok (.goto (-21), 3) := dgX12_back_100.2.2.2.2.2.2.2.2.2.2.1
theorem dX12_back_121 : decode cX12_back 121 = .ok (.aload_n 0, 1) := dgX12_back_100.2.2.2.2.2.2.2.2.2.2.2.1
theorem dgX12_back_122 : (decode cX12_back 122 = .ok (.aload_n 0, 1)) ∧ (decode cX12_back 123 = .ok (.getfield 265, 3)) ∧ (decode cX12_back 126 = .ok (.putfield 211, 3)) ∧ (decode cX12_back 129 = .ok (.aload_n 0, 1)) ∧ (decode cX12_back 130 = .ok (.aload_n 0, 1)) ∧ (decode cX12_back 131 = .ok (.getfield 268, 3)) ∧ (decode cX12_back 134 = .ok (.putfield 214, 3)) ∧ (decode cX12_back 137 = .ok (.iconst 1, 1)) ∧ (decode cX12_back 138 = .ok (.ireturn, 1)) ∧ True := dkW [(122, .aload_n 0, 1), (123, .getfield 265, 3), (126, .putfield 211, 3), (129, .aload_n 0, 1), (130, .aload_n 0, 1), (131, .getfield 268, 3), (134, .putfield 214, 3), (137, .iconst 1, 1), (138, .ireturn, 1)] 122 (by decide +kernel)
theorem dX12_back_122 : decode cX12_back 122 = .ok (.aload_n 0, 1) := dgX12_back_122.1
theorem dX12_back_123 : decode cX12_back 123 = .ok (.getfield 265, 3) := dgX12_back_122.2.1
theorem dX12_back_126 : decode cX12_back 126 = .ok (.putfield 211, 3) := dgX12_back_122.2.2.1
theorem dX12_back_129 : decode cX12_back 129 = .ok (.aload_n 0, 1) := dgX12_back_122.2.2.2.1
theorem dX12_back_130 : decode cX12_back 130 = .ok (.aload_n 0, 1) := dgX12_back_122.2.2.2.2.1
theorem dX12_back_131 : decode cX12_back 131 = .ok (.getfield 268, 3) := dgX12_back_122.2.2.2.2.2.1
theorem dX12_back_134 : decode cX12_back 134 = .ok (.putfield 214, 3) := dgX12_back_122.2.2.2.2.2.2.1
theorem dX12_back_137 : decode cX12_back 137 = .ok (.iconst 1, 1) := dgX12_back_122.2.2.2.2.2.2.2.1
theorem dX12_back_138 : decode cX12_back 138 = .ok (.ireturn, 1) := dgX12_back_122.2.2.2.2.2.2.2.2.1
abbrev rmX12_back : Room := { frames := 0, cells := 0, slots := 0, locals := 0 }
noncomputable def fX12_back_b97_body (N : Nat)  (g97 : Hs → Int32 → Option (Int32 × Hs)) (t : Nat) (h : Hs) (x1 : Int32) : Option (Int32 × Hs) :=
  if 20 ≤ x1 then (
  (oI 12 49 h (some t)).bind fun v1 =>
  (qI 12 21 h (some t) v1).bind fun h2 =>
  (oI 12 50 h2 (some t)).bind fun v3 =>
  (qI 12 22 h2 (some t) v3).bind fun h4 =>
  some (1, h4))
  else (oR 12 19 h (some t)).bind fun o5 =>
  (oR 12 48 h (some t)).bind fun o6 =>
  (lA 20 h o6 x1).bind fun v7 =>
  (sA h o5 x1 v7).bind fun h8 =>
  (some (x1 + 1)).bind fun y9 =>
  g97 h8 y9
noncomputable def fX12_back_b97 (N : Nat)  (t : Nat) (n : Nat) : Hs → Int32 → Option (Int32 × Hs) := lp (fun _ _ => none) (fun g h x1 => fX12_back_b97_body N  g t h x1) n
set_option maxHeartbeats 4000000 in
set_option maxRecDepth 20000 in
theorem wX12_back_b97_body {p : Program} {l : Launch} {e : Env} {s : State} {m : MethodId} {args : Array Value} {below : List Frame} {meth : Method} {c : Code} {G : Gl} {N : Nat} {h : Hs} {r : Int32 × Hs}  {g97 : Hs → Int32 → Option (Int32 × Hs)} {t : Nat} {x1 : Int32} (C : Cx p s m args meth c cX12_back RX12 2 G) (hret : meth.sig.returnType = (some .int))  (hg97 : ∀ (h : Hs) (x1 : Int32), g97 h x1 = some r → V p l e rmX12_back s m args below meth c G 2 (MQ below (QcG G (some (.inl r.1)) r.2) args s rmX12_back.cells rmX12_back.slots (AG G)) h 0 0 97 [some (.inr (some t)), some (.inl x1)] []) (hf : fX12_back_b97_body N  g97 t h x1 = some r) : V p l e rmX12_back s m args below meth c G 2 (MQ below (QcG G (some (.inl r.1)) r.2) args s rmX12_back.cells rmX12_back.slots (AG G)) h 0 0 97 [some (.inr (some t)), some (.inl x1)] [] := by
  unfold fX12_back_b97_body at hf
  refine r_iload_n C dX12_back_97 rfl ?_
  refine r_bipush (v := 20) C dX12_back_98 (by decide) ?_
  refine r_icmp_ge (tgt := 121) C dX12_back_100 (by decide) (fun hc => ?_) (fun hc => ?_)
  · have hf := ifT hf hc
    refine r_aload_n C dX12_back_121 rfl ?_
    refine r_aload_n C dX12_back_122 rfl ?_
    obtain ⟨v1, ev1, hf⟩ := bS hf
    refine r_getI C dX12_back_123 fl_X12_265 rfl ev1 ?_
    obtain ⟨h2, eh2, hf⟩ := bS hf
    refine r_putI C dX12_back_126 fl_X12_211 (Or.inl fn_12_21) rfl eh2 ?_
    refine r_aload_n C dX12_back_129 rfl ?_
    refine r_aload_n C dX12_back_130 rfl ?_
    obtain ⟨v3, ev3, hf⟩ := bS hf
    refine r_getI C dX12_back_131 fl_X12_268 rfl ev3 ?_
    obtain ⟨h4, eh4, hf⟩ := bS hf
    refine r_putI C dX12_back_134 fl_X12_214 (Or.inl fn_12_22) rfl eh4 ?_
    refine r_iconst (v := 1) C dX12_back_137 (by decide) ?_
    exact r_iretF C dX12_back_138 hret hf (by decide) (by decide)
  · have hf := ifF hf hc
    refine r_aload_n C dX12_back_103 rfl ?_
    obtain ⟨o5, eo5, hf⟩ := bS hf
    refine r_getR C dX12_back_104 fl_X12_56 rfl eo5 ?_
    refine r_iload_n C dX12_back_107 rfl ?_
    refine r_aload_n C dX12_back_108 rfl ?_
    obtain ⟨o6, eo6, hf⟩ := bS hf
    refine r_getR C dX12_back_109 fl_X12_116 rfl eo6 ?_
    refine r_iload_n C dX12_back_112 rfl ?_
    obtain ⟨v7, ev7, hf⟩ := bS hf
    refine r_iald C dX12_back_113 ev7 ?_
    obtain ⟨h8, eh8, hf⟩ := bS hf
    refine r_iast C dX12_back_114 eh8 ?_
    obtain ⟨y9, ey9, hf⟩ := bS hf
    refine r_iincE (v := 1) C dX12_back_115 rfl (by decide) (by decide) ey9 ?_
    refine r_goto (tgt := 97) C dX12_back_118 (by decide) ?_
    exact V.sub (hg97 _ _ hf) (LW_s rfl (LW_s rfl (LW_e)))
theorem wX12_back_b97 {p : Program} {l : Launch} {e : Env} {s : State} {m : MethodId} {args : Array Value} {below : List Frame} {meth : Method} {c : Code} {G : Gl} {N : Nat} {r : Int32 × Hs}  {t : Nat} (C : Cx p s m args meth c cX12_back RX12 2 G) (hret : meth.sig.returnType = (some .int))  : ∀ (n : Nat) (h : Hs) (x1 : Int32), fX12_back_b97 N  t n h x1 = some r → V p l e rmX12_back s m args below meth c G 2 (MQ below (QcG G (some (.inl r.1)) r.2) args s rmX12_back.cells rmX12_back.slots (AG G)) h 0 0 97 [some (.inr (some t)), some (.inl x1)] [] := by
  intro n
  induction n with
  | zero => intro h x1 hf; exact absurd (show (none : Option (Int32 × Hs)) = some r from hf) (fun q => by cases q)
  | succ n ih => intro h x1 hf; exact wX12_back_b97_body C hret  ih (show fX12_back_b97_body N  (fX12_back_b97 N  t n) t h x1 = some r from hf)
noncomputable def fX12_back_b57_body (N : Nat)  (g57 : Hs → Int32 → Option (Int32 × Hs)) (t : Nat) (h : Hs) (x1 : Int32) : Option (Int32 × Hs) :=
  (oI 12 11 h (some t)).bind fun v1 =>
  if v1 ≤ x1 then (
  fX12_back_b97 N t N h 0)
  else (oR 12 16 h (some t)).bind fun o2 =>
  (oR 12 46 h (some t)).bind fun o3 =>
  (lA 20 h o3 x1).bind fun v4 =>
  (sA h o2 x1 v4).bind fun h5 =>
  (oR 12 17 h5 (some t)).bind fun o6 =>
  (oR 12 47 h5 (some t)).bind fun o7 =>
  (lA 20 h5 o7 x1).bind fun v8 =>
  (sA h5 o6 x1 v8).bind fun h9 =>
  (some (x1 + 1)).bind fun y10 =>
  g57 h9 y10
noncomputable def fX12_back_b57 (N : Nat)  (t : Nat) (n : Nat) : Hs → Int32 → Option (Int32 × Hs) := lp (fun _ _ => none) (fun g h x1 => fX12_back_b57_body N  g t h x1) n
set_option maxHeartbeats 4000000 in
set_option maxRecDepth 20000 in
theorem wX12_back_b57_body {p : Program} {l : Launch} {e : Env} {s : State} {m : MethodId} {args : Array Value} {below : List Frame} {meth : Method} {c : Code} {G : Gl} {N : Nat} {h : Hs} {r : Int32 × Hs}  {g57 : Hs → Int32 → Option (Int32 × Hs)} {t : Nat} {x1 : Int32} (C : Cx p s m args meth c cX12_back RX12 2 G) (hret : meth.sig.returnType = (some .int))  (hg57 : ∀ (h : Hs) (x1 : Int32), g57 h x1 = some r → V p l e rmX12_back s m args below meth c G 2 (MQ below (QcG G (some (.inl r.1)) r.2) args s rmX12_back.cells rmX12_back.slots (AG G)) h 0 0 57 [some (.inr (some t)), some (.inl x1)] []) (hf : fX12_back_b57_body N  g57 t h x1 = some r) : V p l e rmX12_back s m args below meth c G 2 (MQ below (QcG G (some (.inl r.1)) r.2) args s rmX12_back.cells rmX12_back.slots (AG G)) h 0 0 57 [some (.inr (some t)), some (.inl x1)] [] := by
  unfold fX12_back_b57_body at hf
  refine r_iload_n C dX12_back_57 rfl ?_
  refine r_aload_n C dX12_back_58 rfl ?_
  obtain ⟨v1, ev1, hf⟩ := bS hf
  refine r_getI C dX12_back_59 fl_X12_153 rfl ev1 ?_
  refine r_icmp_ge (tgt := 95) C dX12_back_62 (by decide) (fun hc => ?_) (fun hc => ?_)
  · have hf := ifT hf hc
    refine r_iconst (v := 0) C dX12_back_95 (by decide) ?_
    refine r_istore_n C dX12_back_96 (by decide) ?_
    exact V.sub (wX12_back_b97 C hret N _ _ hf) (LW_s rfl (LW_s rfl (LW_e)))
  · have hf := ifF hf hc
    refine r_aload_n C dX12_back_65 rfl ?_
    obtain ⟨o2, eo2, hf⟩ := bS hf
    refine r_getR C dX12_back_66 fl_X12_46 rfl eo2 ?_
    refine r_iload_n C dX12_back_69 rfl ?_
    refine r_aload_n C dX12_back_70 rfl ?_
    obtain ⟨o3, eo3, hf⟩ := bS hf
    refine r_getR C dX12_back_71 fl_X12_110 rfl eo3 ?_
    refine r_iload_n C dX12_back_74 rfl ?_
    obtain ⟨v4, ev4, hf⟩ := bS hf
    refine r_iald C dX12_back_75 ev4 ?_
    obtain ⟨h5, eh5, hf⟩ := bS hf
    refine r_iast C dX12_back_76 eh5 ?_
    refine r_aload_n C dX12_back_77 rfl ?_
    obtain ⟨o6, eo6, hf⟩ := bS hf
    refine r_getR C dX12_back_78 fl_X12_49 rfl eo6 ?_
    refine r_iload_n C dX12_back_81 rfl ?_
    refine r_aload_n C dX12_back_82 rfl ?_
    obtain ⟨o7, eo7, hf⟩ := bS hf
    refine r_getR C dX12_back_83 fl_X12_113 rfl eo7 ?_
    refine r_iload_n C dX12_back_86 rfl ?_
    obtain ⟨v8, ev8, hf⟩ := bS hf
    refine r_iald C dX12_back_87 ev8 ?_
    obtain ⟨h9, eh9, hf⟩ := bS hf
    refine r_iast C dX12_back_88 eh9 ?_
    obtain ⟨y10, ey10, hf⟩ := bS hf
    refine r_iincE (v := 1) C dX12_back_89 rfl (by decide) (by decide) ey10 ?_
    refine r_goto (tgt := 57) C dX12_back_92 (by decide) ?_
    exact V.sub (hg57 _ _ hf) (LW_s rfl (LW_s rfl (LW_e)))
theorem wX12_back_b57 {p : Program} {l : Launch} {e : Env} {s : State} {m : MethodId} {args : Array Value} {below : List Frame} {meth : Method} {c : Code} {G : Gl} {N : Nat} {r : Int32 × Hs}  {t : Nat} (C : Cx p s m args meth c cX12_back RX12 2 G) (hret : meth.sig.returnType = (some .int))  : ∀ (n : Nat) (h : Hs) (x1 : Int32), fX12_back_b57 N  t n h x1 = some r → V p l e rmX12_back s m args below meth c G 2 (MQ below (QcG G (some (.inl r.1)) r.2) args s rmX12_back.cells rmX12_back.slots (AG G)) h 0 0 57 [some (.inr (some t)), some (.inl x1)] [] := by
  intro n
  induction n with
  | zero => intro h x1 hf; exact absurd (show (none : Option (Int32 × Hs)) = some r from hf) (fun q => by cases q)
  | succ n ih => intro h x1 hf; exact wX12_back_b57_body C hret  ih (show fX12_back_b57_body N  (fX12_back_b57 N  t n) t h x1 = some r from hf)
noncomputable def fX12_back_b17_body (N : Nat)  (g17 : Hs → Int32 → Option (Int32 × Hs)) (t : Nat) (h : Hs) (x1 : Int32) : Option (Int32 × Hs) :=
  (oI 12 1 h (some t)).bind fun v1 =>
  if v1 ≤ x1 then (
  fX12_back_b57 N t N h 0)
  else (oR 12 5 h (some t)).bind fun o2 =>
  (oR 12 44 h (some t)).bind fun o3 =>
  (lA 20 h o3 x1).bind fun v4 =>
  (sA h o2 x1 v4).bind fun h5 =>
  (oR 12 8 h5 (some t)).bind fun o6 =>
  (oR 12 45 h5 (some t)).bind fun o7 =>
  (lA 20 h5 o7 x1).bind fun v8 =>
  (sA h5 o6 x1 v8).bind fun h9 =>
  (some (x1 + 1)).bind fun y10 =>
  g17 h9 y10
noncomputable def fX12_back_b17 (N : Nat)  (t : Nat) (n : Nat) : Hs → Int32 → Option (Int32 × Hs) := lp (fun _ _ => none) (fun g h x1 => fX12_back_b17_body N  g t h x1) n
set_option maxHeartbeats 4000000 in
set_option maxRecDepth 20000 in
theorem wX12_back_b17_body {p : Program} {l : Launch} {e : Env} {s : State} {m : MethodId} {args : Array Value} {below : List Frame} {meth : Method} {c : Code} {G : Gl} {N : Nat} {h : Hs} {r : Int32 × Hs}  {g17 : Hs → Int32 → Option (Int32 × Hs)} {t : Nat} {x1 : Int32} (C : Cx p s m args meth c cX12_back RX12 2 G) (hret : meth.sig.returnType = (some .int))  (hg17 : ∀ (h : Hs) (x1 : Int32), g17 h x1 = some r → V p l e rmX12_back s m args below meth c G 2 (MQ below (QcG G (some (.inl r.1)) r.2) args s rmX12_back.cells rmX12_back.slots (AG G)) h 0 0 17 [some (.inr (some t)), some (.inl x1)] []) (hf : fX12_back_b17_body N  g17 t h x1 = some r) : V p l e rmX12_back s m args below meth c G 2 (MQ below (QcG G (some (.inl r.1)) r.2) args s rmX12_back.cells rmX12_back.slots (AG G)) h 0 0 17 [some (.inr (some t)), some (.inl x1)] [] := by
  unfold fX12_back_b17_body at hf
  refine r_iload_n C dX12_back_17 rfl ?_
  refine r_aload_n C dX12_back_18 rfl ?_
  obtain ⟨v1, ev1, hf⟩ := bS hf
  refine r_getI C dX12_back_19 fl_X12_146 rfl ev1 ?_
  refine r_icmp_ge (tgt := 55) C dX12_back_22 (by decide) (fun hc => ?_) (fun hc => ?_)
  · have hf := ifT hf hc
    refine r_iconst (v := 0) C dX12_back_55 (by decide) ?_
    refine r_istore_n C dX12_back_56 (by decide) ?_
    exact V.sub (wX12_back_b57 C hret N _ _ hf) (LW_s rfl (LW_s rfl (LW_e)))
  · have hf := ifF hf hc
    refine r_aload_n C dX12_back_25 rfl ?_
    obtain ⟨o2, eo2, hf⟩ := bS hf
    refine r_getR C dX12_back_26 fl_X12_19 rfl eo2 ?_
    refine r_iload_n C dX12_back_29 rfl ?_
    refine r_aload_n C dX12_back_30 rfl ?_
    obtain ⟨o3, eo3, hf⟩ := bS hf
    refine r_getR C dX12_back_31 fl_X12_104 rfl eo3 ?_
    refine r_iload_n C dX12_back_34 rfl ?_
    obtain ⟨v4, ev4, hf⟩ := bS hf
    refine r_iald C dX12_back_35 ev4 ?_
    obtain ⟨h5, eh5, hf⟩ := bS hf
    refine r_iast C dX12_back_36 eh5 ?_
    refine r_aload_n C dX12_back_37 rfl ?_
    obtain ⟨o6, eo6, hf⟩ := bS hf
    refine r_getR C dX12_back_38 fl_X12_28 rfl eo6 ?_
    refine r_iload_n C dX12_back_41 rfl ?_
    refine r_aload_n C dX12_back_42 rfl ?_
    obtain ⟨o7, eo7, hf⟩ := bS hf
    refine r_getR C dX12_back_43 fl_X12_107 rfl eo7 ?_
    refine r_iload_n C dX12_back_46 rfl ?_
    obtain ⟨v8, ev8, hf⟩ := bS hf
    refine r_iald C dX12_back_47 ev8 ?_
    obtain ⟨h9, eh9, hf⟩ := bS hf
    refine r_iast C dX12_back_48 eh9 ?_
    obtain ⟨y10, ey10, hf⟩ := bS hf
    refine r_iincE (v := 1) C dX12_back_49 rfl (by decide) (by decide) ey10 ?_
    refine r_goto (tgt := 17) C dX12_back_52 (by decide) ?_
    exact V.sub (hg17 _ _ hf) (LW_s rfl (LW_s rfl (LW_e)))
theorem wX12_back_b17 {p : Program} {l : Launch} {e : Env} {s : State} {m : MethodId} {args : Array Value} {below : List Frame} {meth : Method} {c : Code} {G : Gl} {N : Nat} {r : Int32 × Hs}  {t : Nat} (C : Cx p s m args meth c cX12_back RX12 2 G) (hret : meth.sig.returnType = (some .int))  : ∀ (n : Nat) (h : Hs) (x1 : Int32), fX12_back_b17 N  t n h x1 = some r → V p l e rmX12_back s m args below meth c G 2 (MQ below (QcG G (some (.inl r.1)) r.2) args s rmX12_back.cells rmX12_back.slots (AG G)) h 0 0 17 [some (.inr (some t)), some (.inl x1)] [] := by
  intro n
  induction n with
  | zero => intro h x1 hf; exact absurd (show (none : Option (Int32 × Hs)) = some r from hf) (fun q => by cases q)
  | succ n ih => intro h x1 hf; exact wX12_back_b17_body C hret  ih (show fX12_back_b17_body N  (fX12_back_b17 N  t n) t h x1 = some r from hf)
noncomputable def fX12_back (N : Nat) (h : Hs) (t : Nat)  : Option (Int32 × Hs) :=
  (oI 12 43 h (some t)).bind fun v1 =>
  if v1 = 0 then (
  some ((-2), h))
  else (qZ 12 43 h (some t) 0).bind fun h2 =>
  fX12_back_b17 N t N h2 0
set_option maxHeartbeats 4000000 in
set_option maxRecDepth 20000 in
theorem kX12_back (l : Launch) (G : Gl) {N : Nat} {h : Hs} {t : Nat}  {r : Int32 × Hs} (hf : fX12_back N h t  = some r) : CT l G yX12_back cX12_back 2 (some .int) rmX12_back [.inr (some t)] h (some (.inl r.1)) r.2 := by
  refine mk_CT (by decide) (Nat.le_of_ble_eq_true rfl) ?_
  intro p e s m args below meth c C hret hin
  unfold fX12_back at hf
  refine r_aload_n C dX12_back_0 rfl ?_
  obtain ⟨v1, ev1, hf⟩ := bS hf
  refine r_getI C dX12_back_1 fl_X12_162 rfl ev1 ?_
  refine r_if_ne (tgt := 10) C dX12_back_4 (by decide) (fun hc => ?_) (fun hc => ?_)
  · have hf := ifF hf hc
    refine r_aload_n C dX12_back_10 rfl ?_
    refine r_iconst (v := 0) C dX12_back_11 (by decide) ?_
    obtain ⟨h2, eh2, hf⟩ := bS hf
    refine r_putZ C dX12_back_12 fl_X12_162 (Or.inl fn_12_43) rfl eh2 ?_
    refine r_iconst (v := 0) C dX12_back_15 (by decide) ?_
    refine r_istore_n C dX12_back_16 (by decide) ?_
    exact V.sub (wX12_back_b17 C hret N _ _ hf) (LW_s rfl (LW_s rfl (LW_e)))
  · have hf := ifT hf hc
    refine r_bipush (v := -2) C dX12_back_7 (by decide) ?_
    exact r_iretF C dX12_back_9 hret hf (by decide) (by decide)

theorem dgX12_left_0 : (decode cX12_left 0 = .ok (.aload_n 0, 1)) ∧ (decode cX12_left 1 = .ok (.getfield 122, 3)) ∧ (decode cX12_left 4 = .ok (.iload_n 1, 1)) ∧ (decode cX12_left 5 = .ok (.iaload, 1)) ∧ (decode cX12_left 6 = .ok (.aload_n 0, 1)) ∧ (decode cX12_left 7 = .ok (.getfield 119, 3)) ∧ (decode cX12_left 10 = .ok (.iload_n 1, 1)) ∧ (decode cX12_left 11 = .ok (.iaload, 1)) ∧ (decode cX12_left 12 = .ok (.iadd, 1)) ∧ (decode cX12_left 13 = .ok (.aload_n 0, 1)) ∧ (decode cX12_left 14 = .ok (.getfield 278, 3)) ∧ (decode cX12_left 17 = .ok (.isub, 1)) ∧ True := dkW [(0, .aload_n 0, 1), (1, .getfield 122, 3), (4, .iload_n 1, 1), (5, .iaload, 1), (6, .aload_n 0, 1), (7, .getfield 119, 3), (10, .iload_n 1, 1), (11, .iaload, 1), (12, .iadd, 1), (13, .aload_n 0, 1), (14, .getfield 278, 3), (17, .isub, 1)] 0 (by decide +kernel)
theorem dX12_left_0 : decode cX12_left 0 = .ok (.aload_n 0, 1) := dgX12_left_0.1
theorem dX12_left_1 : decode cX12_left 1 = .ok (.getfield 122, 3) := dgX12_left_0.2.1
theorem dX12_left_4 : decode cX12_left 4 = .ok (.iload_n 1, 1) := dgX12_left_0.2.2.1
theorem dX12_left_5 : decode cX12_left 5 = .ok (.iaload, 1) := dgX12_left_0.2.2.2.1
theorem dX12_left_6 : decode cX12_left 6 = .ok (.aload_n 0, 1) := dgX12_left_0.2.2.2.2.1
theorem dX12_left_7 : decode cX12_left 7 = .ok (.getfield 119, 3) := dgX12_left_0.2.2.2.2.2.1
theorem dX12_left_10 : decode cX12_left 10 = .ok (.iload_n 1, 1) := dgX12_left_0.2.2.2.2.2.2.1
theorem dX12_left_11 : decode cX12_left 11 = .ok (.iaload, 1) := dgX12_left_0.2.2.2.2.2.2.2.1
theorem dX12_left_12 : decode cX12_left 12 = .ok (.iadd, 1) := dgX12_left_0.2.2.2.2.2.2.2.2.1
theorem dX12_left_13 : decode cX12_left 13 = .ok (.aload_n 0, 1) := dgX12_left_0.2.2.2.2.2.2.2.2.2.1
theorem dX12_left_14 : decode cX12_left 14 = .ok (.getfield 278, 3) := dgX12_left_0.2.2.2.2.2.2.2.2.2.2.1
theorem dX12_left_17 : decode cX12_left 17 = .ok (.isub, 1) := dgX12_left_0.2.2.2.2.2.2.2.2.2.2.2.1
theorem dgX12_left_18 : (decode cX12_left 18 = .ok (.ireturn, 1)) ∧ True := dkW [(18, .ireturn, 1)] 18 (by decide +kernel)
theorem dX12_left_18 : decode cX12_left 18 = .ok (.ireturn, 1) := dgX12_left_18.1
abbrev rmX12_left : Room := { frames := 0, cells := 0, slots := 0, locals := 0 }
noncomputable def fX12_left (N : Nat) (h : Hs) (t : Nat) (p1 : Int32) : Option (Int32 × Hs) :=
  (oR 12 55 h (some t)).bind fun o1 =>
  (lA 20 h o1 p1).bind fun v2 =>
  (oR 12 54 h (some t)).bind fun o3 =>
  (lA 20 h o3 p1).bind fun v4 =>
  (oI 12 52 h (some t)).bind fun v5 =>
  some ((v2 + v4) - v5, h)
set_option maxHeartbeats 4000000 in
set_option maxRecDepth 20000 in
theorem kX12_left (l : Launch) (G : Gl) {N : Nat} {h : Hs} {t : Nat} {p1 : Int32} {r : Int32 × Hs} (hf : fX12_left N h t p1 = some r) : CT l G yX12_left cX12_left 2 (some .int) rmX12_left [.inr (some t), .inl p1] h (some (.inl r.1)) r.2 := by
  refine mk_CT (by decide) (Nat.le_of_ble_eq_true rfl) ?_
  intro p e s m args below meth c C hret hin
  unfold fX12_left at hf
  refine r_aload_n C dX12_left_0 rfl ?_
  obtain ⟨o1, eo1, hf⟩ := bS hf
  refine r_getR C dX12_left_1 fl_X12_122 rfl eo1 ?_
  refine r_iload_n C dX12_left_4 rfl ?_
  obtain ⟨v2, ev2, hf⟩ := bS hf
  refine r_iald C dX12_left_5 ev2 ?_
  refine r_aload_n C dX12_left_6 rfl ?_
  obtain ⟨o3, eo3, hf⟩ := bS hf
  refine r_getR C dX12_left_7 fl_X12_119 rfl eo3 ?_
  refine r_iload_n C dX12_left_10 rfl ?_
  obtain ⟨v4, ev4, hf⟩ := bS hf
  refine r_iald C dX12_left_11 ev4 ?_
  refine r_iadd C dX12_left_12 ?_
  refine r_aload_n C dX12_left_13 rfl ?_
  obtain ⟨v5, ev5, hf⟩ := bS hf
  refine r_getI C dX12_left_14 fl_X12_278 rfl ev5 ?_
  refine r_isub C dX12_left_17 ?_
  exact r_iretF C dX12_left_18 hret hf (by decide) (by decide)
