theorem dgX12_count_0 : (decode cX12_count 0 = .ok (.iconst 0, 1)) ∧ (decode cX12_count 1 = .ok (.istore_n 2, 1)) ∧ (decode cX12_count 2 = .ok (.iload_n 1, 1)) ∧ True := dkW [(0, .iconst 0, 1), (1, .istore_n 2, 1), (2, .iload_n 1, 1)] 0 (by decide +kernel)
theorem dX12_count_0 : decode cX12_count 0 = .ok (.iconst 0, 1) := dgX12_count_0.1
theorem dX12_count_1 : decode cX12_count 1 = .ok (.istore_n 2, 1) := dgX12_count_0.2.1
theorem dX12_count_2 : decode cX12_count 2 = .ok (.iload_n 1, 1) := dgX12_count_0.2.2.1
theorem dX12_count_3 : decode cX12_count 3 = .ok (.tableswitch 133 0 9 #[53, 58, 63, 68, 103, 108, 113, 118, 123, 128], 53) := by decide +kernel
theorem dgX12_count_56 : (decode cX12_count 56 = .ok (.aload_n 0, 1)) ∧ (decode cX12_count 57 = .ok (.getfield 146, 3)) ∧ (decode cX12_count 60 = .ok (.ireturn, 1)) ∧ (decode cX12_count 61 = .ok (.aload_n 0, 1)) ∧ (decode cX12_count 62 = .ok (.getfield 156, 3)) ∧ (decode cX12_count 65 = .ok (.ireturn, 1)) ∧ (decode cX12_count 66 = .ok (.aload_n 0, 1)) ∧ (decode cX12_count 67 = .ok (.getfield 153, 3)) ∧ (decode cX12_count 70 = .ok (.ireturn, 1)) ∧ (decode cX12_count 71 = .ok (.iconst 0, 1)) ∧ (decode cX12_count 72 = .ok (.istore_n 3, 1)) ∧ (decode cX12_count 73 = .ok (.iload_n 3, 1)) ∧ True := dkW [(56, .aload_n 0, 1), (57, .getfield 146, 3), (60, .ireturn, 1), (61, .aload_n 0, 1), (62, .getfield 156, 3), (65, .ireturn, 1), (66, .aload_n 0, 1), (67, .getfield 153, 3), (70, .ireturn, 1), (71, .iconst 0, 1), (72, .istore_n 3, 1), (73, .iload_n 3, 1)] 56 (by decide +kernel)
theorem dX12_count_56 : decode cX12_count 56 = .ok (.aload_n 0, 1) := dgX12_count_56.1
theorem dX12_count_57 : decode cX12_count 57 = .ok (.getfield 146, 3) := dgX12_count_56.2.1
theorem dX12_count_60 : decode cX12_count 60 = .ok (.ireturn, 1) := dgX12_count_56.2.2.1
theorem dX12_count_61 : decode cX12_count 61 = .ok (.aload_n 0, 1) := dgX12_count_56.2.2.2.1
theorem dX12_count_62 : decode cX12_count 62 = .ok (.getfield 156, 3) := dgX12_count_56.2.2.2.2.1
theorem dX12_count_65 : decode cX12_count 65 = .ok (.ireturn, 1) := dgX12_count_56.2.2.2.2.2.1
theorem dX12_count_66 : decode cX12_count 66 = .ok (.aload_n 0, 1) := dgX12_count_56.2.2.2.2.2.2.1
theorem dX12_count_67 : decode cX12_count 67 = .ok (.getfield 153, 3) := dgX12_count_56.2.2.2.2.2.2.2.1
theorem dX12_count_70 : decode cX12_count 70 = .ok (.ireturn, 1) := dgX12_count_56.2.2.2.2.2.2.2.2.1
theorem dX12_count_71 : decode cX12_count 71 = .ok (.iconst 0, 1) := dgX12_count_56.2.2.2.2.2.2.2.2.2.1
theorem dX12_count_72 : decode cX12_count 72 = .ok (.istore_n 3, 1) := dgX12_count_56.2.2.2.2.2.2.2.2.2.2.1
theorem dX12_count_73 : decode cX12_count 73 = .ok (.iload_n 3, 1) := dgX12_count_56.2.2.2.2.2.2.2.2.2.2.2.1
theorem dgX12_count_74 : (decode cX12_count 74 = .ok (.aload_n 0, 1)) ∧ (decode cX12_count 75 = .ok (.getfield 153, 3)) ∧ (decode cX12_count 78 = .ok (.if_icmp .ge 26, 3)) ∧ (decode cX12_count 81 = .ok (.iload_n 2, 1)) ∧ (decode cX12_count 82 = .ok (.aload_n 0, 1)) ∧ (decode cX12_count 83 = .ok (.getfield 46, 3)) ∧ (decode cX12_count 86 = .ok (.iload_n 3, 1)) ∧ (decode cX12_count 87 = .ok (.iaload, 1)) ∧ (decode cX12_count 88 = .ok (.ifCond .lt 7, 3)) ∧ (decode cX12_count 91 = .ok (.iconst 1, 1)) ∧ (decode cX12_count 92 = .ok (.goto 4, 3)) ∧ (decode cX12_count 95 = .ok (.iconst 0, 1)) ∧ True := dkW [(74, .aload_n 0, 1), (75, .getfield 153, 3), (78, .if_icmp .ge 26, 3), (81, .iload_n 2, 1), (82, .aload_n 0, 1), (83, .getfield 46, 3), (86, .iload_n 3, 1), (87, .iaload, 1), (88, .ifCond .lt 7, 3), (91, .iconst 1, 1), (92, .goto 4, 3), (95, .iconst 0, 1)] 74 (by decide +kernel)
theorem dX12_count_74 : decode cX12_count 74 = .ok (.aload_n 0, 1) := dgX12_count_74.1
theorem dX12_count_75 : decode cX12_count 75 = .ok (.getfield 153, 3) := dgX12_count_74.2.1
theorem dX12_count_78 : decode cX12_count 78 = .ok (.if_icmp .ge 26, 3) := dgX12_count_74.2.2.1
theorem dX12_count_81 : decode cX12_count 81 = .ok (.iload_n 2, 1) := dgX12_count_74.2.2.2.1
theorem dX12_count_82 : decode cX12_count 82 = .ok (.aload_n 0, 1) := dgX12_count_74.2.2.2.2.1
theorem dX12_count_83 : decode cX12_count 83 = .ok (.getfield 46, 3) := dgX12_count_74.2.2.2.2.2.1
theorem dX12_count_86 : decode cX12_count 86 = .ok (.iload_n 3, 1) := dgX12_count_74.2.2.2.2.2.2.1
theorem dX12_count_87 : decode cX12_count 87 = .ok (.iaload, 1) := dgX12_count_74.2.2.2.2.2.2.2.1
theorem dX12_count_88 : decode cX12_count 88 = .ok (.ifCond .lt 7, 3) := dgX12_count_74.2.2.2.2.2.2.2.2.1
theorem dX12_count_91 : decode cX12_count 91 = .ok (.iconst 1, 1) := dgX12_count_74.2.2.2.2.2.2.2.2.2.1
theorem dX12_count_92 : decode cX12_count 92 = .ok (.goto 4, 3) := dgX12_count_74.2.2.2.2.2.2.2.2.2.2.1
theorem dX12_count_95 : decode cX12_count 95 = .ok (.iconst 0, 1) := dgX12_count_74.2.2.2.2.2.2.2.2.2.2.2.1
theorem dgX12_count_96 : (decode cX12_count 96 = .ok (.iadd, 1)) ∧ (decode cX12_count 97 = .ok (.istore_n 2, 1)) ∧ (decode cX12_count 98 = .ok (.iinc 3 1, 3)) ∧ (decode cX12_count 101 = .ok (.goto (-28), 3)) ∧ (decode cX12_count 104 = .ok (.iload_n 2, 1)) ∧ (decode cX12_count 105 = .ok (.ireturn, 1)) ∧ (decode cX12_count 106 = .ok (.aload_n 0, 1)) ∧ (decode cX12_count 107 = .ok (.getfield 211, 3)) ∧ (decode cX12_count 110 = .ok (.ireturn, 1)) ∧ (decode cX12_count 111 = .ok (.aload_n 0, 1)) ∧ (decode cX12_count 112 = .ok (.getfield 278, 3)) ∧ (decode cX12_count 115 = .ok (.ireturn, 1)) ∧ True := dkW [(96, .iadd, 1), (97, .istore_n 2, 1), (98, .iinc 3 1, 3), (101, .goto (-28), 3), (104, .iload_n 2, 1), (105, .ireturn, 1), (106, .aload_n 0, 1), (107, .getfield 211, 3), (110, .ireturn, 1), (111, .aload_n 0, 1), (112, .getfield 278, 3), (115, .ireturn, 1)] 96 (by decide +kernel)
theorem dX12_count_96 : decode cX12_count 96 = .ok (.iadd, 1) := dgX12_count_96.1
theorem dX12_count_97 : decode cX12_count 97 = .ok (.istore_n 2, 1) := dgX12_count_96.2.1
theorem dX12_count_98 : decode cX12_count 98 = .ok (.iinc 3 1, 3) := dgX12_count_96.2.2.1
theorem dX12_count_101 : decode cX12_count 101 = .ok (.goto (-28), 3) := dgX12_count_96.2.2.2.1
theorem dX12_count_104 : decode cX12_count 104 = .ok (.iload_n 2, 1) := dgX12_count_96.2.2.2.2.1
theorem dX12_count_105 : decode cX12_count 105 = .ok (.ireturn, 1) := dgX12_count_96.2.2.2.2.2.1
theorem dX12_count_106 : decode cX12_count 106 = .ok (.aload_n 0, 1) := dgX12_count_96.2.2.2.2.2.2.1
theorem dX12_count_107 : decode cX12_count 107 = .ok (.getfield 211, 3) := dgX12_count_96.2.2.2.2.2.2.2.1
theorem dX12_count_110 : decode cX12_count 110 = .ok (.ireturn, 1) := dgX12_count_96.2.2.2.2.2.2.2.2.1
theorem dX12_count_111 : decode cX12_count 111 = .ok (.aload_n 0, 1) := dgX12_count_96.2.2.2.2.2.2.2.2.2.1
theorem dX12_count_112 : decode cX12_count 112 = .ok (.getfield 278, 3) := dgX12_count_96.2.2.2.2.2.2.2.2.2.2.1
theorem dX12_count_115 : decode cX12_count 115 = .ok (.ireturn, 1) := dgX12_count_96.2.2.2.2.2.2.2.2.2.2.2.1
theorem dgX12_count_116 : (decode cX12_count 116 = .ok (.aload_n 0, 1)) ∧ (decode cX12_count 117 = .ok (.getfield 281, 3)) ∧ (decode cX12_count 120 = .ok (.ireturn, 1)) ∧ (decode cX12_count 121 = .ok (.aload_n 0, 1)) ∧ (decode cX12_count 122 = .ok (.getfield 290, 3)) ∧ (decode cX12_count 125 = .ok (.ireturn, 1)) ∧ (decode cX12_count 126 = .ok (.aload_n 0, 1)) ∧ (decode cX12_count 127 = .ok (.getfield 246, 3)) ∧ (decode cX12_count 130 = .ok (.ireturn, 1)) ∧ (decode cX12_count 131 = .ok (.aload_n 0, 1)) ∧ (decode cX12_count 132 = .ok (.getfield 214, 3)) ∧ (decode cX12_count 135 = .ok (.ireturn, 1)) ∧ True := dkW [(116, .aload_n 0, 1), (117, .getfield 281, 3), (120, .ireturn, 1), (121, .aload_n 0, 1), (122, .getfield 290, 3), (125, .ireturn, 1), (126, .aload_n 0, 1), (127, .getfield 246, 3), (130, .ireturn, 1), (131, .aload_n 0, 1), (132, .getfield 214, 3), (135, .ireturn, 1)] 116 (by decide +kernel)
theorem dX12_count_116 : decode cX12_count 116 = .ok (.aload_n 0, 1) := dgX12_count_116.1
theorem dX12_count_117 : decode cX12_count 117 = .ok (.getfield 281, 3) := dgX12_count_116.2.1
theorem dX12_count_120 : decode cX12_count 120 = .ok (.ireturn, 1) := dgX12_count_116.2.2.1
theorem dX12_count_121 : decode cX12_count 121 = .ok (.aload_n 0, 1) := dgX12_count_116.2.2.2.1
theorem dX12_count_122 : decode cX12_count 122 = .ok (.getfield 290, 3) := dgX12_count_116.2.2.2.2.1
theorem dX12_count_125 : decode cX12_count 125 = .ok (.ireturn, 1) := dgX12_count_116.2.2.2.2.2.1
theorem dX12_count_126 : decode cX12_count 126 = .ok (.aload_n 0, 1) := dgX12_count_116.2.2.2.2.2.2.1
theorem dX12_count_127 : decode cX12_count 127 = .ok (.getfield 246, 3) := dgX12_count_116.2.2.2.2.2.2.2.1
theorem dX12_count_130 : decode cX12_count 130 = .ok (.ireturn, 1) := dgX12_count_116.2.2.2.2.2.2.2.2.1
theorem dX12_count_131 : decode cX12_count 131 = .ok (.aload_n 0, 1) := dgX12_count_116.2.2.2.2.2.2.2.2.2.1
theorem dX12_count_132 : decode cX12_count 132 = .ok (.getfield 214, 3) := dgX12_count_116.2.2.2.2.2.2.2.2.2.2.1
theorem dX12_count_135 : decode cX12_count 135 = .ok (.ireturn, 1) := dgX12_count_116.2.2.2.2.2.2.2.2.2.2.2.1
theorem dgX12_count_136 : (decode cX12_count 136 = .ok (.ldc 177, 2)) ∧ (decode cX12_count 138 = .ok (.ireturn, 1)) ∧ True := dkW [(136, .ldc 177, 2), (138, .ireturn, 1)] 136 (by decide +kernel)
theorem dX12_count_136 : decode cX12_count 136 = .ok (.ldc 177, 2) := dgX12_count_136.1
theorem dX12_count_138 : decode cX12_count 138 = .ok (.ireturn, 1) := dgX12_count_136.2.1
abbrev rmX12_count : Room := { frames := 0, cells := 0, slots := 0, locals := 0 }
noncomputable def fX12_count_b96 (N : Nat) (g73 : Hs → Int32 → Int32 → Option (Int32 × Hs)) (t : Nat) (h : Hs) (x3 : Int32) (u0 : Int32) (u1 : Int32) : Option (Int32 × Hs) :=
  (some (u0 + u1)).bind fun y1 =>
  (some (x3 + 1)).bind fun y2 =>
  g73 h y1 y2
set_option maxHeartbeats 4000000 in
set_option maxRecDepth 20000 in
theorem wX12_count_b96 {p : Program} {l : Launch} {e : Env} {s : State} {m : MethodId} {args : Array Value} {below : List Frame} {meth : Method} {c : Code} {G : Gl} {N : Nat} {h : Hs} {r : Int32 × Hs} {g73 : Hs → Int32 → Int32 → Option (Int32 × Hs)} {t : Nat} {x3 : Int32} {u0 : Int32} {u1 : Int32} (C : Cx p s m args meth c cX12_count RX12 4 G) (hret : meth.sig.returnType = (some .int)) (hg73 : ∀ (h : Hs) (x2 : Int32) (x3 : Int32), g73 h x2 x3 = some r → V p l e rmX12_count s m args below meth c G 4 (MQ below (QcG G (some (.inl r.1)) r.2) args s rmX12_count.cells rmX12_count.slots (AG G)) h 0 0 73 [some (.inr (some t)), none, some (.inl x2), some (.inl x3)] []) (hf : fX12_count_b96 N g73 t h x3 u0 u1 = some r) : V p l e rmX12_count s m args below meth c G 4 (MQ below (QcG G (some (.inl r.1)) r.2) args s rmX12_count.cells rmX12_count.slots (AG G)) h 0 0 96 [some (.inr (some t)), none, none, some (.inl x3)] [.inl u1, .inl u0] := by
  unfold fX12_count_b96 at hf
  refine r_iadd C dX12_count_96 ?_
  obtain ⟨y1, ey1, hf⟩ := bS hf
  refine r_istore_nE C dX12_count_97 (by decide) ey1 ?_
  obtain ⟨y2, ey2, hf⟩ := bS hf
  refine r_iincE (v := 1) C dX12_count_98 rfl (by decide) (by decide) ey2 ?_
  refine r_goto (tgt := 73) C dX12_count_101 (by decide) ?_
  exact V.sub (hg73 _ _ _ hf) (LW_s rfl (LW_n (LW_s rfl (LW_s rfl (LW_e)))))
noncomputable def fX12_count_b73_body (N : Nat)  (g73 : Hs → Int32 → Int32 → Option (Int32 × Hs)) (t : Nat) (h : Hs) (x2 : Int32) (x3 : Int32) : Option (Int32 × Hs) :=
  (oI 12 11 h (some t)).bind fun v1 =>
  if v1 ≤ x3 then (
  some (x2, h))
  else (oR 12 16 h (some t)).bind fun o2 =>
  (lA 20 h o2 x3).bind fun v3 =>
  if v3 < 0 then (
  fX12_count_b96 N g73 t h x3 x2 0)
  else fX12_count_b96 N g73 t h x3 x2 1
noncomputable def fX12_count_b73 (N : Nat)  (t : Nat) (n : Nat) : Hs → Int32 → Int32 → Option (Int32 × Hs) := lp (fun _ _ _ => none) (fun g h x2 x3 => fX12_count_b73_body N  g t h x2 x3) n
set_option maxHeartbeats 4000000 in
set_option maxRecDepth 20000 in
theorem wX12_count_b73_body {p : Program} {l : Launch} {e : Env} {s : State} {m : MethodId} {args : Array Value} {below : List Frame} {meth : Method} {c : Code} {G : Gl} {N : Nat} {h : Hs} {r : Int32 × Hs}  {g73 : Hs → Int32 → Int32 → Option (Int32 × Hs)} {t : Nat} {x2 : Int32} {x3 : Int32} (C : Cx p s m args meth c cX12_count RX12 4 G) (hret : meth.sig.returnType = (some .int))  (hg73 : ∀ (h : Hs) (x2 : Int32) (x3 : Int32), g73 h x2 x3 = some r → V p l e rmX12_count s m args below meth c G 4 (MQ below (QcG G (some (.inl r.1)) r.2) args s rmX12_count.cells rmX12_count.slots (AG G)) h 0 0 73 [some (.inr (some t)), none, some (.inl x2), some (.inl x3)] []) (hf : fX12_count_b73_body N  g73 t h x2 x3 = some r) : V p l e rmX12_count s m args below meth c G 4 (MQ below (QcG G (some (.inl r.1)) r.2) args s rmX12_count.cells rmX12_count.slots (AG G)) h 0 0 73 [some (.inr (some t)), none, some (.inl x2), some (.inl x3)] [] := by
  unfold fX12_count_b73_body at hf
  refine r_iload_n C dX12_count_73 rfl ?_
  refine r_aload_n C dX12_count_74 rfl ?_
  obtain ⟨v1, ev1, hf⟩ := bS hf
  refine r_getI C dX12_count_75 fl_X12_153 rfl ev1 ?_
  refine r_icmp_ge (tgt := 104) C dX12_count_78 (by decide) (fun hc => ?_) (fun hc => ?_)
  · have hf := ifT hf hc
    refine r_iload_n C dX12_count_104 rfl ?_
    exact r_iretF C dX12_count_105 hret hf (by decide) (by decide)
  · have hf := ifF hf hc
    refine r_iload_n C dX12_count_81 rfl ?_
    refine r_aload_n C dX12_count_82 rfl ?_
    obtain ⟨o2, eo2, hf⟩ := bS hf
    refine r_getR C dX12_count_83 fl_X12_46 rfl eo2 ?_
    refine r_iload_n C dX12_count_86 rfl ?_
    obtain ⟨v3, ev3, hf⟩ := bS hf
    refine r_iald C dX12_count_87 ev3 ?_
    refine r_if_lt (tgt := 95) C dX12_count_88 (by decide) (fun hc => ?_) (fun hc => ?_)
    · have hf := ifT hf hc
      refine r_iconst (v := 0) C dX12_count_95 (by decide) ?_
      exact V.sub (wX12_count_b96 C hret hg73 hf) (LW_s rfl (LW_n (LW_n (LW_s rfl (LW_e)))))
    · have hf := ifF hf hc
      refine r_iconst (v := 1) C dX12_count_91 (by decide) ?_
      refine r_goto (tgt := 96) C dX12_count_92 (by decide) ?_
      exact V.sub (wX12_count_b96 C hret hg73 hf) (LW_s rfl (LW_n (LW_n (LW_s rfl (LW_e)))))
theorem wX12_count_b73 {p : Program} {l : Launch} {e : Env} {s : State} {m : MethodId} {args : Array Value} {below : List Frame} {meth : Method} {c : Code} {G : Gl} {N : Nat} {r : Int32 × Hs}  {t : Nat} (C : Cx p s m args meth c cX12_count RX12 4 G) (hret : meth.sig.returnType = (some .int))  : ∀ (n : Nat) (h : Hs) (x2 : Int32) (x3 : Int32), fX12_count_b73 N  t n h x2 x3 = some r → V p l e rmX12_count s m args below meth c G 4 (MQ below (QcG G (some (.inl r.1)) r.2) args s rmX12_count.cells rmX12_count.slots (AG G)) h 0 0 73 [some (.inr (some t)), none, some (.inl x2), some (.inl x3)] [] := by
  intro n
  induction n with
  | zero => intro h x2 x3 hf; exact absurd (show (none : Option (Int32 × Hs)) = some r from hf) (fun q => by cases q)
  | succ n ih => intro h x2 x3 hf; exact wX12_count_b73_body C hret  ih (show fX12_count_b73_body N  (fX12_count_b73 N  t n) t h x2 x3 = some r from hf)
noncomputable def fX12_count (N : Nat) (h : Hs) (t : Nat) (p1 : Int32) : Option (Int32 × Hs) :=
  if p1 = 0 then (
  (oI 12 1 h (some t)).bind fun v1 =>
  some (v1, h))
  else if p1 = 1 then (
  (oI 12 9 h (some t)).bind fun v2 =>
  some (v2, h))
  else if p1 = 2 then (
  (oI 12 11 h (some t)).bind fun v3 =>
  some (v3, h))
  else if p1 = 3 then (
  fX12_count_b73 N t N h 0 0)
  else if p1 = 4 then (
  (oI 12 21 h (some t)).bind fun v4 =>
  some (v4, h))
  else if p1 = 5 then (
  (oI 12 52 h (some t)).bind fun v5 =>
  some (v5, h))
  else if p1 = 6 then (
  (oI 12 53 h (some t)).bind fun v6 =>
  some (v6, h))
  else if p1 = 7 then (
  (oI 12 56 h (some t)).bind fun v7 =>
  some (v7, h))
  else if p1 = 8 then (
  (oI 12 37 h (some t)).bind fun v8 =>
  some (v8, h))
  else if p1 = 9 then (
  (oI 12 22 h (some t)).bind fun v9 =>
  some (v9, h))
  else some ((-2000000000), h)
set_option maxHeartbeats 4000000 in
set_option maxRecDepth 20000 in
theorem kX12_count (l : Launch) (G : Gl) {N : Nat} {h : Hs} {t : Nat} {p1 : Int32} {r : Int32 × Hs} (hf : fX12_count N h t p1 = some r) : CT l G yX12_count cX12_count 4 (some .int) rmX12_count [.inr (some t), .inl p1] h (some (.inl r.1)) r.2 := by
  refine mk_CT (by decide) (Nat.le_of_ble_eq_true rfl) ?_
  intro p e s m args below meth c C hret hin
  unfold fX12_count at hf
  refine r_iconst (v := 0) C dX12_count_0 (by decide) ?_
  refine r_istore_n C dX12_count_1 (by decide) ?_
  refine r_iload_n C dX12_count_2 rfl ?_
  by_cases k0 : p1 = 0
  · have hf := ifT hf k0
    refine r_tabIn (tgt := 56) (off := 53) C dX12_count_3 (by rw [k0]; decide) (by rw [k0]; decide) (by rw [k0]; rfl) (by decide) ?_
    refine r_aload_n C dX12_count_56 rfl ?_
    obtain ⟨v1, ev1, hf⟩ := bS hf
    refine r_getI C dX12_count_57 fl_X12_146 rfl ev1 ?_
    exact r_iretF C dX12_count_60 hret hf (by decide) (by decide)
  · have hf := ifF hf k0
    by_cases k1 : p1 = 1
    · have hf := ifT hf k1
      refine r_tabIn (tgt := 61) (off := 58) C dX12_count_3 (by rw [k1]; decide) (by rw [k1]; decide) (by rw [k1]; rfl) (by decide) ?_
      refine r_aload_n C dX12_count_61 rfl ?_
      obtain ⟨v2, ev2, hf⟩ := bS hf
      refine r_getI C dX12_count_62 fl_X12_156 rfl ev2 ?_
      exact r_iretF C dX12_count_65 hret hf (by decide) (by decide)
    · have hf := ifF hf k1
      by_cases k2 : p1 = 2
      · have hf := ifT hf k2
        refine r_tabIn (tgt := 66) (off := 63) C dX12_count_3 (by rw [k2]; decide) (by rw [k2]; decide) (by rw [k2]; rfl) (by decide) ?_
        refine r_aload_n C dX12_count_66 rfl ?_
        obtain ⟨v3, ev3, hf⟩ := bS hf
        refine r_getI C dX12_count_67 fl_X12_153 rfl ev3 ?_
        exact r_iretF C dX12_count_70 hret hf (by decide) (by decide)
      · have hf := ifF hf k2
        by_cases k3 : p1 = 3
        · have hf := ifT hf k3
          refine r_tabIn (tgt := 71) (off := 68) C dX12_count_3 (by rw [k3]; decide) (by rw [k3]; decide) (by rw [k3]; rfl) (by decide) ?_
          refine r_iconst (v := 0) C dX12_count_71 (by decide) ?_
          refine r_istore_n C dX12_count_72 (by decide) ?_
          exact V.sub (wX12_count_b73 C hret N _ _ _ hf) (LW_s rfl (LW_n (LW_s rfl (LW_s rfl (LW_e)))))
        · have hf := ifF hf k3
          by_cases k4 : p1 = 4
          · have hf := ifT hf k4
            refine r_tabIn (tgt := 106) (off := 103) C dX12_count_3 (by rw [k4]; decide) (by rw [k4]; decide) (by rw [k4]; rfl) (by decide) ?_
            refine r_aload_n C dX12_count_106 rfl ?_
            obtain ⟨v4, ev4, hf⟩ := bS hf
            refine r_getI C dX12_count_107 fl_X12_211 rfl ev4 ?_
            exact r_iretF C dX12_count_110 hret hf (by decide) (by decide)
          · have hf := ifF hf k4
            by_cases k5 : p1 = 5
            · have hf := ifT hf k5
              refine r_tabIn (tgt := 111) (off := 108) C dX12_count_3 (by rw [k5]; decide) (by rw [k5]; decide) (by rw [k5]; rfl) (by decide) ?_
              refine r_aload_n C dX12_count_111 rfl ?_
              obtain ⟨v5, ev5, hf⟩ := bS hf
              refine r_getI C dX12_count_112 fl_X12_278 rfl ev5 ?_
              exact r_iretF C dX12_count_115 hret hf (by decide) (by decide)
            · have hf := ifF hf k5
              by_cases k6 : p1 = 6
              · have hf := ifT hf k6
                refine r_tabIn (tgt := 116) (off := 113) C dX12_count_3 (by rw [k6]; decide) (by rw [k6]; decide) (by rw [k6]; rfl) (by decide) ?_
                refine r_aload_n C dX12_count_116 rfl ?_
                obtain ⟨v6, ev6, hf⟩ := bS hf
                refine r_getI C dX12_count_117 fl_X12_281 rfl ev6 ?_
                exact r_iretF C dX12_count_120 hret hf (by decide) (by decide)
              · have hf := ifF hf k6
                by_cases k7 : p1 = 7
                · have hf := ifT hf k7
                  refine r_tabIn (tgt := 121) (off := 118) C dX12_count_3 (by rw [k7]; decide) (by rw [k7]; decide) (by rw [k7]; rfl) (by decide) ?_
                  refine r_aload_n C dX12_count_121 rfl ?_
                  obtain ⟨v7, ev7, hf⟩ := bS hf
                  refine r_getI C dX12_count_122 fl_X12_290 rfl ev7 ?_
                  exact r_iretF C dX12_count_125 hret hf (by decide) (by decide)
                · have hf := ifF hf k7
                  by_cases k8 : p1 = 8
                  · have hf := ifT hf k8
                    refine r_tabIn (tgt := 126) (off := 123) C dX12_count_3 (by rw [k8]; decide) (by rw [k8]; decide) (by rw [k8]; rfl) (by decide) ?_
                    refine r_aload_n C dX12_count_126 rfl ?_
                    obtain ⟨v8, ev8, hf⟩ := bS hf
                    refine r_getI C dX12_count_127 fl_X12_246 rfl ev8 ?_
                    exact r_iretF C dX12_count_130 hret hf (by decide) (by decide)
                  · have hf := ifF hf k8
                    by_cases k9 : p1 = 9
                    · have hf := ifT hf k9
                      refine r_tabIn (tgt := 131) (off := 128) C dX12_count_3 (by rw [k9]; decide) (by rw [k9]; decide) (by rw [k9]; rfl) (by decide) ?_
                      refine r_aload_n C dX12_count_131 rfl ?_
                      obtain ⟨v9, ev9, hf⟩ := bS hf
                      refine r_getI C dX12_count_132 fl_X12_214 rfl ev9 ?_
                      exact r_iretF C dX12_count_135 hret hf (by decide) (by decide)
                    · have hf := ifF hf k9
                      refine r_tabOut (tgt := 136) C dX12_count_3 (sw_out (lo := 0) (hi := 9) [0, 1, 2, 3, 4, 5, 6, 7, 8, 9] (by decide) (List.forall_mem_cons.mpr ⟨k0, List.forall_mem_cons.mpr ⟨k1, List.forall_mem_cons.mpr ⟨k2, List.forall_mem_cons.mpr ⟨k3, List.forall_mem_cons.mpr ⟨k4, List.forall_mem_cons.mpr ⟨k5, List.forall_mem_cons.mpr ⟨k6, List.forall_mem_cons.mpr ⟨k7, List.forall_mem_cons.mpr ⟨k8, List.forall_mem_cons.mpr ⟨k9, fun _ q => absurd q List.not_mem_nil⟩⟩⟩⟩⟩⟩⟩⟩⟩⟩)) (by decide) ?_
                      refine r_ldc C dX12_count_136 wd_1220 ?_
                      exact r_iretF C dX12_count_138 hret hf (by decide) (by decide)
