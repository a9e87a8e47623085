theorem dgX1_countWorks_0 : (decode cX1_countWorks 0 = .ok (.aload_n 0, 1)) ∧ (decode cX1_countWorks 1 = .ok (.iconst 0, 1)) ∧ (decode cX1_countWorks 2 = .ok (.putfield 112, 3)) ∧ (decode cX1_countWorks 5 = .ok (.aload_n 0, 1)) ∧ (decode cX1_countWorks 6 = .ok (.iconst 0, 1)) ∧ (decode cX1_countWorks 7 = .ok (.putfield 115, 3)) ∧ (decode cX1_countWorks 10 = .ok (.aload_n 0, 1)) ∧ (decode cX1_countWorks 11 = .ok (.iconst 0, 1)) ∧ (decode cX1_countWorks 12 = .ok (.putfield 118, 3)) ∧ (decode cX1_countWorks 15 = .ok (.iconst 0, 1)) ∧ (decode cX1_countWorks 16 = .ok (.istore_n 1, 1)) ∧ (decode cX1_countWorks 17 = .ok (.iload_n 1, 1)) ∧ True := dkW [(0, .aload_n 0, 1), (1, .iconst 0, 1), (2, .putfield 112, 3), (5, .aload_n 0, 1), (6, .iconst 0, 1), (7, .putfield 115, 3), (10, .aload_n 0, 1), (11, .iconst 0, 1), (12, .putfield 118, 3), (15, .iconst 0, 1), (16, .istore_n 1, 1), (17, .iload_n 1, 1)] 0 (by decide +kernel)
theorem dX1_countWorks_0 : decode cX1_countWorks 0 = .ok (.aload_n 0, 1) := dgX1_countWorks_0.1
theorem dX1_countWorks_1 : decode cX1_countWorks 1 = .ok (.iconst 0, 1) := dgX1_countWorks_0.2.1
theorem dX1_countWorks_2 : decode cX1_countWorks 2 = .ok (.putfield 112, 3) := dgX1_countWorks_0.2.2.1
theorem dX1_countWorks_5 : decode cX1_countWorks 5 = .ok (.aload_n 0, 1) := dgX1_countWorks_0.2.2.2.1
theorem dX1_countWorks_6 : decode cX1_countWorks 6 = .ok (.iconst 0, 1) := dgX1_countWorks_0.2.2.2.2.1
theorem dX1_countWorks_7 : decode cX1_countWorks 7 = .ok (.putfield 115, 3) := dgX1_countWorks_0.2.2.2.2.2.1
theorem dX1_countWorks_10 : decode cX1_countWorks 10 = .ok (.aload_n 0, 1) := dgX1_countWorks_0.2.2.2.2.2.2.1
theorem dX1_countWorks_11 : decode cX1_countWorks 11 = .ok (.iconst 0, 1) := dgX1_countWorks_0.2.2.2.2.2.2.2.1
theorem dX1_countWorks_12 : decode cX1_countWorks 12 = .ok (.putfield 118, 3) := dgX1_countWorks_0.2.2.2.2.2.2.2.2.1
theorem dX1_countWorks_15 : decode cX1_countWorks 15 = .ok (.iconst 0, 1) := dgX1_countWorks_0.2.2.2.2.2.2.2.2.2.1
theorem dX1_countWorks_16 : decode cX1_countWorks 16 = .ok (.istore_n 1, 1) := dgX1_countWorks_0.2.2.2.2.2.2.2.2.2.2.1
theorem dX1_countWorks_17 : decode cX1_countWorks 17 = .ok (.iload_n 1, 1) := dgX1_countWorks_0.2.2.2.2.2.2.2.2.2.2.2.1
theorem dgX1_countWorks_18 : (decode cX1_countWorks 18 = .ok (.aload_n 0, 1)) ∧ (decode cX1_countWorks 19 = .ok (.getfield 21, 3)) ∧ (decode cX1_countWorks 22 = .ok (.getfield 46, 3)) ∧ (decode cX1_countWorks 25 = .ok (.if_icmp .ge 88, 3)) ∧ (decode cX1_countWorks 28 = .ok (.aload_n 0, 1)) ∧ (decode cX1_countWorks 29 = .ok (.getfield 21, 3)) ∧ (decode cX1_countWorks 32 = .ok (.getfield 52, 3)) ∧ (decode cX1_countWorks 35 = .ok (.iload_n 1, 1)) ∧ (decode cX1_countWorks 36 = .ok (.aaload, 1)) ∧ (decode cX1_countWorks 37 = .ok (.getfield 121, 3)) ∧ (decode cX1_countWorks 40 = .ok (.astore_n 2, 1)) ∧ (decode cX1_countWorks 41 = .ok (.aload_n 0, 1)) ∧ True := dkW [(18, .aload_n 0, 1), (19, .getfield 21, 3), (22, .getfield 46, 3), (25, .if_icmp .ge 88, 3), (28, .aload_n 0, 1), (29, .getfield 21, 3), (32, .getfield 52, 3), (35, .iload_n 1, 1), (36, .aaload, 1), (37, .getfield 121, 3), (40, .astore_n 2, 1), (41, .aload_n 0, 1)] 18 (by decide +kernel)
theorem dX1_countWorks_18 : decode cX1_countWorks 18 = .ok (.aload_n 0, 1) := dgX1_countWorks_18.1
theorem dX1_countWorks_19 : decode cX1_countWorks 19 = .ok (.getfield 21, 3) := dgX1_countWorks_18.2.1
theorem dX1_countWorks_22 : decode cX1_countWorks 22 = .ok (.getfield 46, 3) := dgX1_countWorks_18.2.2.1
theorem dX1_countWorks_25 : decode cX1_countWorks 25 = .ok (.if_icmp .ge 88, 3) := dgX1_countWorks_18.2.2.2.1
theorem dX1_countWorks_28 : decode cX1_countWorks 28 = .ok (.aload_n 0, 1) := dgX1_countWorks_18.2.2.2.2.1
theorem dX1_countWorks_29 : decode cX1_countWorks 29 = .ok (.getfield 21, 3) := dgX1_countWorks_18.2.2.2.2.2.1
theorem dX1_countWorks_32 : decode cX1_countWorks 32 = .ok (.getfield 52, 3) := dgX1_countWorks_18.2.2.2.2.2.2.1
theorem dX1_countWorks_35 : decode cX1_countWorks 35 = .ok (.iload_n 1, 1) := dgX1_countWorks_18.2.2.2.2.2.2.2.1
theorem dX1_countWorks_36 : decode cX1_countWorks 36 = .ok (.aaload, 1) := dgX1_countWorks_18.2.2.2.2.2.2.2.2.1
theorem dX1_countWorks_37 : decode cX1_countWorks 37 = .ok (.getfield 121, 3) := dgX1_countWorks_18.2.2.2.2.2.2.2.2.2.1
theorem dX1_countWorks_40 : decode cX1_countWorks 40 = .ok (.astore_n 2, 1) := dgX1_countWorks_18.2.2.2.2.2.2.2.2.2.2.1
theorem dX1_countWorks_41 : decode cX1_countWorks 41 = .ok (.aload_n 0, 1) := dgX1_countWorks_18.2.2.2.2.2.2.2.2.2.2.2.1
theorem dgX1_countWorks_42 : (decode cX1_countWorks 42 = .ok (.getfield 9, 3)) ∧ (decode cX1_countWorks 45 = .ok (.iload_n 1, 1)) ∧ (decode cX1_countWorks 46 = .ok (.iaload, 1)) ∧ (decode cX1_countWorks 47 = .ok (.ifCond .ge 24, 3)) ∧ (decode cX1_countWorks 50 = .ok (.aload_n 0, 1)) ∧ (decode cX1_countWorks 51 = .ok (.dup, 1)) ∧ (decode cX1_countWorks 52 = .ok (.getfield 112, 3)) ∧ (decode cX1_countWorks 55 = .ok (.aload_n 2, 1)) ∧ (decode cX1_countWorks 56 = .ok (.ifnonnull 7, 3)) ∧ (decode cX1_countWorks 59 = .ok (.iconst 0, 1)) ∧ (decode cX1_countWorks 60 = .ok (.goto 4, 3)) ∧ (decode cX1_countWorks 63 = .ok (.iconst 1, 1)) ∧ True := dkW [(42, .getfield 9, 3), (45, .iload_n 1, 1), (46, .iaload, 1), (47, .ifCond .ge 24, 3), (50, .aload_n 0, 1), (51, .dup, 1), (52, .getfield 112, 3), (55, .aload_n 2, 1), (56, .ifnonnull 7, 3), (59, .iconst 0, 1), (60, .goto 4, 3), (63, .iconst 1, 1)] 42 (by decide +kernel)
theorem dX1_countWorks_42 : decode cX1_countWorks 42 = .ok (.getfield 9, 3) := dgX1_countWorks_42.1
theorem dX1_countWorks_45 : decode cX1_countWorks 45 = .ok (.iload_n 1, 1) := dgX1_countWorks_42.2.1
theorem dX1_countWorks_46 : decode cX1_countWorks 46 = .ok (.iaload, 1) := dgX1_countWorks_42.2.2.1
theorem dX1_countWorks_47 : decode cX1_countWorks 47 = .ok (.ifCond .ge 24, 3) := dgX1_countWorks_42.2.2.2.1
theorem dX1_countWorks_50 : decode cX1_countWorks 50 = .ok (.aload_n 0, 1) := dgX1_countWorks_42.2.2.2.2.1
theorem dX1_countWorks_51 : decode cX1_countWorks 51 = .ok (.dup, 1) := dgX1_countWorks_42.2.2.2.2.2.1
theorem dX1_countWorks_52 : decode cX1_countWorks 52 = .ok (.getfield 112, 3) := dgX1_countWorks_42.2.2.2.2.2.2.1
theorem dX1_countWorks_55 : decode cX1_countWorks 55 = .ok (.aload_n 2, 1) := dgX1_countWorks_42.2.2.2.2.2.2.2.1
theorem dX1_countWorks_56 : decode cX1_countWorks 56 = .ok (.ifnonnull 7, 3) := dgX1_countWorks_42.2.2.2.2.2.2.2.2.1
theorem dX1_countWorks_59 : decode cX1_countWorks 59 = .ok (.iconst 0, 1) := dgX1_countWorks_42.2.2.2.2.2.2.2.2.2.1
theorem dX1_countWorks_60 : decode cX1_countWorks 60 = .ok (.goto 4, 3) := dgX1_countWorks_42.2.2.2.2.2.2.2.2.2.2.1
theorem dX1_countWorks_63 : decode cX1_countWorks 63 = .ok (.iconst 1, 1) := dgX1_countWorks_42.2.2.2.2.2.2.2.2.2.2.2.1
theorem dgX1_countWorks_64 : (decode cX1_countWorks 64 = .ok (.iadd, 1)) ∧ (decode cX1_countWorks 65 = .ok (.putfield 112, 3)) ∧ (decode cX1_countWorks 68 = .ok (.goto 39, 3)) ∧ (decode cX1_countWorks 71 = .ok (.aload_n 2, 1)) ∧ (decode cX1_countWorks 72 = .ok (.ifnonnull 16, 3)) ∧ (decode cX1_countWorks 75 = .ok (.aload_n 0, 1)) ∧ (decode cX1_countWorks 76 = .ok (.dup, 1)) ∧ (decode cX1_countWorks 77 = .ok (.getfield 115, 3)) ∧ (decode cX1_countWorks 80 = .ok (.iconst 1, 1)) ∧ (decode cX1_countWorks 81 = .ok (.iadd, 1)) ∧ (decode cX1_countWorks 82 = .ok (.putfield 115, 3)) ∧ (decode cX1_countWorks 85 = .ok (.goto 22, 3)) ∧ True := dkW [(64, .iadd, 1), (65, .putfield 112, 3), (68, .goto 39, 3), (71, .aload_n 2, 1), (72, .ifnonnull 16, 3), (75, .aload_n 0, 1), (76, .dup, 1), (77, .getfield 115, 3), (80, .iconst 1, 1), (81, .iadd, 1), (82, .putfield 115, 3), (85, .goto 22, 3)] 64 (by decide +kernel)
theorem dX1_countWorks_64 : decode cX1_countWorks 64 = .ok (.iadd, 1) := dgX1_countWorks_64.1
theorem dX1_countWorks_65 : decode cX1_countWorks 65 = .ok (.putfield 112, 3) := dgX1_countWorks_64.2.1
theorem dX1_countWorks_68 : decode cX1_countWorks 68 = .ok (.goto 39, 3) := dgX1_countWorks_64.2.2.1
theorem dX1_countWorks_71 : decode cX1_countWorks 71 = .ok (.aload_n 2, 1) := dgX1_countWorks_64.2.2.2.1
theorem dX1_countWorks_72 : decode cX1_countWorks 72 = .ok (.ifnonnull 16, 3) := dgX1_countWorks_64.2.2.2.2.1
theorem dX1_countWorks_75 : decode cX1_countWorks 75 = .ok (.aload_n 0, 1) := dgX1_countWorks_64.2.2.2.2.2.1
theorem dX1_countWorks_76 : decode cX1_countWorks 76 = .ok (.dup, 1) := dgX1_countWorks_64.2.2.2.2.2.2.1
theorem dX1_countWorks_77 : decode cX1_countWorks 77 = .ok (.getfield 115, 3) := dgX1_countWorks_64.2.2.2.2.2.2.2.1
theorem dX1_countWorks_80 : decode cX1_countWorks 80 = .ok (.iconst 1, 1) := dgX1_countWorks_64.2.2.2.2.2.2.2.2.1
theorem dX1_countWorks_81 : decode cX1_countWorks 81 = .ok (.iadd, 1) := dgX1_countWorks_64.2.2.2.2.2.2.2.2.2.1
theorem dX1_countWorks_82 : decode cX1_countWorks 82 = .ok (.putfield 115, 3) := dgX1_countWorks_64.2.2.2.2.2.2.2.2.2.2.1
theorem dX1_countWorks_85 : decode cX1_countWorks 85 = .ok (.goto 22, 3) := dgX1_countWorks_64.2.2.2.2.2.2.2.2.2.2.2.1
theorem dgX1_countWorks_88 : (decode cX1_countWorks 88 = .ok (.aload_n 0, 1)) ∧ (decode cX1_countWorks 89 = .ok (.aload_n 2, 1)) ∧ (decode cX1_countWorks 90 = .ok (.iload_n 1, 1)) ∧ (decode cX1_countWorks 91 = .ok (.invokevirtual 125, 3)) ∧ (decode cX1_countWorks 94 = .ok (.ifCond .ne 13, 3)) ∧ (decode cX1_countWorks 97 = .ok (.aload_n 0, 1)) ∧ (decode cX1_countWorks 98 = .ok (.dup, 1)) ∧ (decode cX1_countWorks 99 = .ok (.getfield 118, 3)) ∧ (decode cX1_countWorks 102 = .ok (.iconst 1, 1)) ∧ (decode cX1_countWorks 103 = .ok (.iadd, 1)) ∧ (decode cX1_countWorks 104 = .ok (.putfield 118, 3)) ∧ (decode cX1_countWorks 107 = .ok (.iinc 1 1, 3)) ∧ True := dkW [(88, .aload_n 0, 1), (89, .aload_n 2, 1), (90, .iload_n 1, 1), (91, .invokevirtual 125, 3), (94, .ifCond .ne 13, 3), (97, .aload_n 0, 1), (98, .dup, 1), (99, .getfield 118, 3), (102, .iconst 1, 1), (103, .iadd, 1), (104, .putfield 118, 3), (107, .iinc 1 1, 3)] 88 (by decide +kernel)
theorem dX1_countWorks_88 : decode cX1_countWorks 88 = .ok (.aload_n 0, 1) := dgX1_countWorks_88.1
theorem dX1_countWorks_89 : decode cX1_countWorks 89 = .ok (.aload_n 2, 1) := dgX1_countWorks_88.2.1
theorem dX1_countWorks_90 : decode cX1_countWorks 90 = .ok (.iload_n 1, 1) := dgX1_countWorks_88.2.2.1
theorem dX1_countWorks_91 : decode cX1_countWorks 91 = .ok (.invokevirtual 125, 3) := dgX1_countWorks_88.2.2.2.1
theorem dX1_countWorks_94 : decode cX1_countWorks 94 = .ok (.ifCond .ne 13, 3) := dgX1_countWorks_88.2.2.2.2.1
theorem dX1_countWorks_97 : decode cX1_countWorks 97 = .ok (.aload_n 0, 1) := dgX1_countWorks_88.2.2.2.2.2.1
theorem dX1_countWorks_98 : decode cX1_countWorks 98 = .ok (.dup, 1) := dgX1_countWorks_88.2.2.2.2.2.2.1
theorem dX1_countWorks_99 : decode cX1_countWorks 99 = .ok (.getfield 118, 3) := dgX1_countWorks_88.2.2.2.2.2.2.2.1
theorem dX1_countWorks_102 : decode cX1_countWorks 102 = .ok (.iconst 1, 1) := dgX1_countWorks_88.2.2.2.2.2.2.2.2.1
theorem dX1_countWorks_103 : decode cX1_countWorks 103 = .ok (.iadd, 1) := dgX1_countWorks_88.2.2.2.2.2.2.2.2.2.1
theorem dX1_countWorks_104 : decode cX1_countWorks 104 = .ok (.putfield 118, 3) := dgX1_countWorks_88.2.2.2.2.2.2.2.2.2.2.1
theorem dX1_countWorks_107 : decode cX1_countWorks 107 = .ok (.iinc 1 1, 3) := dgX1_countWorks_88.2.2.2.2.2.2.2.2.2.2.2.1
theorem dgX1_countWorks_110 : (decode cX1_countWorks 110 = .ok (.goto (-93), 3)) ∧ (decode cX1_countWorks 113 = .ok (.return_, 1)) ∧ True := dkW [(110, .goto (-93), 3), (113, .return_, 1)] 110 (by decide +kernel)
theorem dX1_countWorks_110 : decode cX1_countWorks 110 = .ok (.goto (-93), 3) := dgX1_countWorks_110.1
theorem dX1_countWorks_113 : decode cX1_countWorks 113 = .ok (.return_, 1) := dgX1_countWorks_110.2.1
abbrev rmX1_countWorks : Room := { frames := 1, cells := 0, slots := 0, locals := 22 }
noncomputable def fX1_countWorks_b107 (N : Nat) (g17 : Hs → Int32 → Option (Hs)) (t : Nat) (h : Hs) (x1 : Int32) : Option (Hs) :=
  (some (x1 + 1)).bind fun y1 =>
  g17 h y1
set_option maxHeartbeats 4000000 in
set_option maxRecDepth 20000 in
theorem wX1_countWorks_b107 {p : Program} {l : Launch} {e : Env} {s : State} {m : MethodId} {args : Array Value} {below : List Frame} {meth : Method} {c : Code} {G : Gl} {N : Nat} {h : Hs} {r : Hs} {g17 : Hs → Int32 → Option (Hs)} {t : Nat} {x1 : Int32} (C : Cx p s m args meth c cX1_countWorks RX1 3 G) (hret : meth.sig.returnType = none) (hg17 : ∀ (h : Hs) (x1 : Int32), g17 h x1 = some r → V p l e rmX1_countWorks s m args below meth c G 3 (MQ below (QcG G (none) r) args s rmX1_countWorks.cells rmX1_countWorks.slots (AG G)) h 0 0 17 [some (.inr (some t)), some (.inl x1), none] []) (hf : fX1_countWorks_b107 N g17 t h x1 = some r) : V p l e rmX1_countWorks s m args below meth c G 3 (MQ below (QcG G (none) r) args s rmX1_countWorks.cells rmX1_countWorks.slots (AG G)) h 0 0 107 [some (.inr (some t)), some (.inl x1), none] [] := by
  unfold fX1_countWorks_b107 at hf
  obtain ⟨y1, ey1, hf⟩ := bS hf
  refine r_iincE (v := 1) C dX1_countWorks_107 rfl (by decide) (by decide) ey1 ?_
  refine r_goto (tgt := 17) C dX1_countWorks_110 (by decide) ?_
  exact V.sub (hg17 _ _ hf) (LW_s rfl (LW_s rfl (LW_n (LW_e))))
noncomputable def fX1_countWorks_b64 (N : Nat) (g17 : Hs → Int32 → Option (Hs)) (t : Nat) (h : Hs) (x1 : Int32) (q0 : Option Nat) (u1 : Int32) (u2 : Int32) : Option (Hs) :=
  (qI 1 6 h q0 (u1 + u2)).bind fun h1 =>
  fX1_countWorks_b107 N g17 t h1 x1
set_option maxHeartbeats 4000000 in
set_option maxRecDepth 20000 in
theorem wX1_countWorks_b64 {p : Program} {l : Launch} {e : Env} {s : State} {m : MethodId} {args : Array Value} {below : List Frame} {meth : Method} {c : Code} {G : Gl} {N : Nat} {h : Hs} {r : Hs} {g17 : Hs → Int32 → Option (Hs)} {t : Nat} {x1 : Int32} {q0 : Option Nat} {u1 : Int32} {u2 : Int32} (C : Cx p s m args meth c cX1_countWorks RX1 3 G) (hret : meth.sig.returnType = none) (hg17 : ∀ (h : Hs) (x1 : Int32), g17 h x1 = some r → V p l e rmX1_countWorks s m args below meth c G 3 (MQ below (QcG G (none) r) args s rmX1_countWorks.cells rmX1_countWorks.slots (AG G)) h 0 0 17 [some (.inr (some t)), some (.inl x1), none] []) (hf : fX1_countWorks_b64 N g17 t h x1 q0 u1 u2 = some r) : V p l e rmX1_countWorks s m args below meth c G 3 (MQ below (QcG G (none) r) args s rmX1_countWorks.cells rmX1_countWorks.slots (AG G)) h 0 0 64 [some (.inr (some t)), some (.inl x1), none] [.inl u2, .inl u1, .inr q0] := by
  unfold fX1_countWorks_b64 at hf
  refine r_iadd C dX1_countWorks_64 ?_
  obtain ⟨h1, eh1, hf⟩ := bS hf
  refine r_putI C dX1_countWorks_65 fl_X1_112 (Or.inl fn_1_6) rfl eh1 ?_
  refine r_goto (tgt := 107) C dX1_countWorks_68 (by decide) ?_
  exact V.sub (wX1_countWorks_b107 C hret hg17 hf) (LW_s rfl (LW_s rfl (LW_n (LW_e))))
noncomputable def fX1_countWorks_b17_body (N : Nat)  (g17 : Hs → Int32 → Option (Hs)) (t : Nat) (h : Hs) (x1 : Int32) : Option (Hs) :=
  (oR 1 0 h (some t)).bind fun o1 =>
  (oI 5 7 h o1).bind fun v2 =>
  if v2 ≤ x1 then (
  some h)
  else (oR 1 0 h (some t)).bind fun o3 =>
  (oR 5 0 h o3).bind fun o4 =>
  (lQ 23 h o4 x1).bind fun o5 =>
  (oR 9 9 h o5).bind fun o6 =>
  (oR 1 1 h (some t)).bind fun o7 =>
  (lA 20 h o7 x1).bind fun v8 =>
  if 0 ≤ v8 then (
  if o6 = none then (
  (oI 1 7 h (some t)).bind fun v13 =>
  (qI 1 7 h (some t) (v13 + 1)).bind fun h14 =>
  fX1_countWorks_b107 N g17 t h14 x1)
  else (rc 1 h (some t)).bind fun a10 =>
  (fX1_isReady N h a10 o6 x1).bind fun r9 =>
  if r9.1 = 0 then (
  (oI 1 8 r9.2 (some t)).bind fun v11 =>
  (qI 1 8 r9.2 (some t) (v11 + 1)).bind fun h12 =>
  fX1_countWorks_b107 N g17 t h12 x1)
  else fX1_countWorks_b107 N g17 t r9.2 x1)
  else (oI 1 6 h (some t)).bind fun v15 =>
  if o6 = none then (
  fX1_countWorks_b64 N g17 t h x1 (some t) v15 0)
  else fX1_countWorks_b64 N g17 t h x1 (some t) v15 1
noncomputable def fX1_countWorks_b17 (N : Nat)  (t : Nat) (n : Nat) : Hs → Int32 → Option (Hs) := lp (fun _ _ => none) (fun g h x1 => fX1_countWorks_b17_body N  g t h x1) n
set_option maxHeartbeats 4000000 in
set_option maxRecDepth 20000 in
theorem wX1_countWorks_b17_body {p : Program} {l : Launch} {e : Env} {s : State} {m : MethodId} {args : Array Value} {below : List Frame} {meth : Method} {c : Code} {G : Gl} {N : Nat} {h : Hs} {r : Hs}  {g17 : Hs → Int32 → Option (Hs)} {t : Nat} {x1 : Int32} (C : Cx p s m args meth c cX1_countWorks RX1 3 G) (hret : meth.sig.returnType = none)  (hg17 : ∀ (h : Hs) (x1 : Int32), g17 h x1 = some r → V p l e rmX1_countWorks s m args below meth c G 3 (MQ below (QcG G (none) r) args s rmX1_countWorks.cells rmX1_countWorks.slots (AG G)) h 0 0 17 [some (.inr (some t)), some (.inl x1), none] []) (hf : fX1_countWorks_b17_body N  g17 t h x1 = some r) : V p l e rmX1_countWorks s m args below meth c G 3 (MQ below (QcG G (none) r) args s rmX1_countWorks.cells rmX1_countWorks.slots (AG G)) h 0 0 17 [some (.inr (some t)), some (.inl x1), none] [] := by
  unfold fX1_countWorks_b17_body at hf
  refine r_iload_n C dX1_countWorks_17 rfl ?_
  refine r_aload_n C dX1_countWorks_18 rfl ?_
  obtain ⟨o1, eo1, hf⟩ := bS hf
  refine r_getR C dX1_countWorks_19 fl_X1_21 rfl eo1 ?_
  obtain ⟨v2, ev2, hf⟩ := bS hf
  refine r_getI C dX1_countWorks_22 fl_X1_46 rfl ev2 ?_
  refine r_icmp_ge (tgt := 113) C dX1_countWorks_25 (by decide) (fun hc => ?_) (fun hc => ?_)
  · have hf := ifT hf hc
    exact r_vretF C dX1_countWorks_113 hret hf (by decide) (by decide)
  · have hf := ifF hf hc
    refine r_aload_n C dX1_countWorks_28 rfl ?_
    obtain ⟨o3, eo3, hf⟩ := bS hf
    refine r_getR C dX1_countWorks_29 fl_X1_21 rfl eo3 ?_
    obtain ⟨o4, eo4, hf⟩ := bS hf
    refine r_getR C dX1_countWorks_32 fl_X1_52 rfl eo4 ?_
    refine r_iload_n C dX1_countWorks_35 rfl ?_
    obtain ⟨o5, eo5, hf⟩ := bS hf
    refine r_qald (t := 3) C dX1_countWorks_36 (by decide) (by decide) rfl eo5 ?_
    obtain ⟨o6, eo6, hf⟩ := bS hf
    refine r_getR C dX1_countWorks_37 fl_X1_121 rfl eo6 ?_
    refine r_astore_n C dX1_countWorks_40 (by decide) ?_
    refine r_aload_n C dX1_countWorks_41 rfl ?_
    obtain ⟨o7, eo7, hf⟩ := bS hf
    refine r_getR C dX1_countWorks_42 fl_X1_9 rfl eo7 ?_
    refine r_iload_n C dX1_countWorks_45 rfl ?_
    obtain ⟨v8, ev8, hf⟩ := bS hf
    refine r_iald C dX1_countWorks_46 ev8 ?_
    refine r_if_ge (tgt := 71) C dX1_countWorks_47 (by decide) (fun hc => ?_) (fun hc => ?_)
    · have hf := ifT hf hc
      refine r_aload_n C dX1_countWorks_71 rfl ?_
      refine r_ifnonnull (tgt := 88) C dX1_countWorks_72 (by decide) (fun hc => ?_) (fun hc => ?_)
      · have hf := ifF hf hc
        refine r_aload_n C dX1_countWorks_88 rfl ?_
        refine r_aload_n C dX1_countWorks_89 rfl ?_
        refine r_iload_n C dX1_countWorks_90 rfl ?_
        obtain ⟨a10, ea10, hf⟩ := bS hf
        obtain ⟨r9, er9, hf⟩ := bS hf
        refine r_invV1 (As := [.inr o6, .inl x1]) (ci := 1) C dX1_countWorks_91 mcX1_isReady wd_725 wd_727 wp_11 rfl rfl (by decide) ⟨by decide, by decide⟩ ⟨by decide, by decide⟩ rfl (Nat.le_of_ble_eq_true rfl) ea10 (kX1_isReady l G er9) ?_
        refine r_if_ne (tgt := 107) C dX1_countWorks_94 (by decide) (fun hc => ?_) (fun hc => ?_)
        · have hf := ifF hf hc
          exact V.sub (wX1_countWorks_b107 C hret hg17 hf) (LW_s rfl (LW_s rfl (LW_n (LW_e))))
        · have hf := ifT hf hc
          refine r_aload_n C dX1_countWorks_97 rfl ?_
          refine r_dup C dX1_countWorks_98 ?_
          obtain ⟨v11, ev11, hf⟩ := bS hf
          refine r_getI C dX1_countWorks_99 fl_X1_118 rfl ev11 ?_
          refine r_iconst (v := 1) C dX1_countWorks_102 (by decide) ?_
          refine r_iadd C dX1_countWorks_103 ?_
          obtain ⟨h12, eh12, hf⟩ := bS hf
          refine r_putI C dX1_countWorks_104 fl_X1_118 (Or.inl fn_1_8) rfl eh12 ?_
          exact V.sub (wX1_countWorks_b107 C hret hg17 hf) (LW_s rfl (LW_s rfl (LW_n (LW_e))))
      · have hf := ifT hf hc
        refine r_aload_n C dX1_countWorks_75 rfl ?_
        refine r_dup C dX1_countWorks_76 ?_
        obtain ⟨v13, ev13, hf⟩ := bS hf
        refine r_getI C dX1_countWorks_77 fl_X1_115 rfl ev13 ?_
        refine r_iconst (v := 1) C dX1_countWorks_80 (by decide) ?_
        refine r_iadd C dX1_countWorks_81 ?_
        obtain ⟨h14, eh14, hf⟩ := bS hf
        refine r_putI C dX1_countWorks_82 fl_X1_115 (Or.inl fn_1_7) rfl eh14 ?_
        refine r_goto (tgt := 107) C dX1_countWorks_85 (by decide) ?_
        exact V.sub (wX1_countWorks_b107 C hret hg17 hf) (LW_s rfl (LW_s rfl (LW_n (LW_e))))
    · have hf := ifF hf hc
      refine r_aload_n C dX1_countWorks_50 rfl ?_
      refine r_dup C dX1_countWorks_51 ?_
      obtain ⟨v15, ev15, hf⟩ := bS hf
      refine r_getI C dX1_countWorks_52 fl_X1_112 rfl ev15 ?_
      refine r_aload_n C dX1_countWorks_55 rfl ?_
      refine r_ifnonnull (tgt := 63) C dX1_countWorks_56 (by decide) (fun hc => ?_) (fun hc => ?_)
      · have hf := ifF hf hc
        refine r_iconst (v := 1) C dX1_countWorks_63 (by decide) ?_
        exact V.sub (wX1_countWorks_b64 C hret hg17 hf) (LW_s rfl (LW_s rfl (LW_n (LW_e))))
      · have hf := ifT hf hc
        refine r_iconst (v := 0) C dX1_countWorks_59 (by decide) ?_
        refine r_goto (tgt := 64) C dX1_countWorks_60 (by decide) ?_
        exact V.sub (wX1_countWorks_b64 C hret hg17 hf) (LW_s rfl (LW_s rfl (LW_n (LW_e))))
theorem wX1_countWorks_b17 {p : Program} {l : Launch} {e : Env} {s : State} {m : MethodId} {args : Array Value} {below : List Frame} {meth : Method} {c : Code} {G : Gl} {N : Nat} {r : Hs}  {t : Nat} (C : Cx p s m args meth c cX1_countWorks RX1 3 G) (hret : meth.sig.returnType = none)  : ∀ (n : Nat) (h : Hs) (x1 : Int32), fX1_countWorks_b17 N  t n h x1 = some r → V p l e rmX1_countWorks s m args below meth c G 3 (MQ below (QcG G (none) r) args s rmX1_countWorks.cells rmX1_countWorks.slots (AG G)) h 0 0 17 [some (.inr (some t)), some (.inl x1), none] [] := by
  intro n
  induction n with
  | zero => intro h x1 hf; exact absurd (show (none : Option (Hs)) = some r from hf) (fun q => by cases q)
  | succ n ih => intro h x1 hf; exact wX1_countWorks_b17_body C hret  ih (show fX1_countWorks_b17_body N  (fX1_countWorks_b17 N  t n) t h x1 = some r from hf)
noncomputable def fX1_countWorks (N : Nat) (h : Hs) (t : Nat)  : Option (Hs) :=
  (qI 1 6 h (some t) 0).bind fun h1 =>
  (qI 1 7 h1 (some t) 0).bind fun h2 =>
  (qI 1 8 h2 (some t) 0).bind fun h3 =>
  fX1_countWorks_b17 N t N h3 0
set_option maxHeartbeats 4000000 in
set_option maxRecDepth 20000 in
theorem kX1_countWorks (l : Launch) (G : Gl) {N : Nat} {h : Hs} {t : Nat}  {r : Hs} (hf : fX1_countWorks N h t  = some r) : CT l G yX1_countWorks cX1_countWorks 3 none rmX1_countWorks [.inr (some t)] h (none) r := by
  refine mk_CT (by decide) (Nat.le_of_ble_eq_true rfl) ?_
  intro p e s m args below meth c C hret hin
  unfold fX1_countWorks at hf
  refine r_aload_n C dX1_countWorks_0 rfl ?_
  refine r_iconst (v := 0) C dX1_countWorks_1 (by decide) ?_
  obtain ⟨h1, eh1, hf⟩ := bS hf
  refine r_putI C dX1_countWorks_2 fl_X1_112 (Or.inl fn_1_6) rfl eh1 ?_
  refine r_aload_n C dX1_countWorks_5 rfl ?_
  refine r_iconst (v := 0) C dX1_countWorks_6 (by decide) ?_
  obtain ⟨h2, eh2, hf⟩ := bS hf
  refine r_putI C dX1_countWorks_7 fl_X1_115 (Or.inl fn_1_7) rfl eh2 ?_
  refine r_aload_n C dX1_countWorks_10 rfl ?_
  refine r_iconst (v := 0) C dX1_countWorks_11 (by decide) ?_
  obtain ⟨h3, eh3, hf⟩ := bS hf
  refine r_putI C dX1_countWorks_12 fl_X1_118 (Or.inl fn_1_8) rfl eh3 ?_
  refine r_iconst (v := 0) C dX1_countWorks_15 (by decide) ?_
  refine r_istore_n C dX1_countWorks_16 (by decide) ?_
  exact V.sub (wX1_countWorks_b17 C hret N _ _ hf) (LW_s rfl (LW_s rfl (LW_n (LW_e))))

theorem dgX1_plan_0 : (decode cX1_plan 0 = .ok (.iload_n 1, 1)) ∧ (decode cX1_plan 1 = .ok (.iconst 0, 1)) ∧ (decode cX1_plan 2 = .ok (.bipush 9, 2)) ∧ (decode cX1_plan 4 = .ok (.invokestatic 25, 3)) ∧ (decode cX1_plan 7 = .ok (.ifCond .eq 14, 3)) ∧ (decode cX1_plan 10 = .ok (.iload_n 2, 1)) ∧ (decode cX1_plan 11 = .ok (.invokestatic 29, 3)) ∧ (decode cX1_plan 14 = .ok (.ifCond .eq 7, 3)) ∧ (decode cX1_plan 17 = .ok (.iload_n 2, 1)) ∧ (decode cX1_plan 18 = .ok (.ifCond .ne 5, 3)) ∧ True := dkW [(0, .iload_n 1, 1), (1, .iconst 0, 1), (2, .bipush 9, 2), (4, .invokestatic 25, 3), (7, .ifCond .eq 14, 3), (10, .iload_n 2, 1), (11, .invokestatic 29, 3), (14, .ifCond .eq 7, 3), (17, .iload_n 2, 1), (18, .ifCond .ne 5, 3)] 0 (by decide +kernel)
theorem dX1_plan_0 : decode cX1_plan 0 = .ok (.iload_n 1, 1) := dgX1_plan_0.1
theorem dX1_plan_1 : decode cX1_plan 1 = .ok (.iconst 0, 1) := dgX1_plan_0.2.1
theorem dX1_plan_2 : decode cX1_plan 2 = .ok (.bipush 9, 2) := dgX1_plan_0.2.2.1
theorem dX1_plan_4 : decode cX1_plan 4 = .ok (.invokestatic 25, 3) := dgX1_plan_0.2.2.2.1
theorem dX1_plan_7 : decode cX1_plan 7 = .ok (.ifCond .eq 14, 3) := dgX1_plan_0.2.2.2.2.1
theorem dX1_plan_10 : decode cX1_plan 10 = .ok (.iload_n 2, 1) := dgX1_plan_0.2.2.2.2.2.1
theorem dX1_plan_11 : decode cX1_plan 11 = .ok (.invokestatic 29, 3) := dgX1_plan_0.2.2.2.2.2.2.1
theorem dX1_plan_14 : decode cX1_plan 14 = .ok (.ifCond .eq 7, 3) := dgX1_plan_0.2.2.2.2.2.2.2.1
theorem dX1_plan_17 : decode cX1_plan 17 = .ok (.iload_n 2, 1) := dgX1_plan_0.2.2.2.2.2.2.2.2.1
theorem dX1_plan_18 : decode cX1_plan 18 = .ok (.ifCond .ne 5, 3) := dgX1_plan_0.2.2.2.2.2.2.2.2.2.1
theorem dX1_plan_21 : decode cX1_plan 21 = .ok (.iconst (-1), 1) := by decide +kernel
theorem dgX1_plan_22 : (decode cX1_plan 22 = .ok (.ireturn, 1)) ∧ (decode cX1_plan 23 = .ok (.aload_n 0, 1)) ∧ (decode cX1_plan 24 = .ok (.iconst 1, 1)) ∧ (decode cX1_plan 25 = .ok (.putfield 33, 3)) ∧ (decode cX1_plan 28 = .ok (.aload_n 0, 1)) ∧ (decode cX1_plan 29 = .ok (.iconst 1, 1)) ∧ (decode cX1_plan 30 = .ok (.putfield 37, 3)) ∧ (decode cX1_plan 33 = .ok (.aload_n 0, 1)) ∧ (decode cX1_plan 34 = .ok (.getfield 9, 3)) ∧ True := dkW [(22, .ireturn, 1), (23, .aload_n 0, 1), (24, .iconst 1, 1), (25, .putfield 33, 3), (28, .aload_n 0, 1), (29, .iconst 1, 1), (30, .putfield 37, 3), (33, .aload_n 0, 1), (34, .getfield 9, 3)] 22 (by decide +kernel)
theorem dX1_plan_22 : decode cX1_plan 22 = .ok (.ireturn, 1) := dgX1_plan_22.1
theorem dX1_plan_23 : decode cX1_plan 23 = .ok (.aload_n 0, 1) := dgX1_plan_22.2.1
theorem dX1_plan_24 : decode cX1_plan 24 = .ok (.iconst 1, 1) := dgX1_plan_22.2.2.1
theorem dX1_plan_25 : decode cX1_plan 25 = .ok (.putfield 33, 3) := dgX1_plan_22.2.2.2.1
theorem dX1_plan_28 : decode cX1_plan 28 = .ok (.aload_n 0, 1) := dgX1_plan_22.2.2.2.2.1
theorem dX1_plan_29 : decode cX1_plan 29 = .ok (.iconst 1, 1) := dgX1_plan_22.2.2.2.2.2.1
theorem dX1_plan_30 : decode cX1_plan 30 = .ok (.putfield 37, 3) := dgX1_plan_22.2.2.2.2.2.2.1
theorem dX1_plan_33 : decode cX1_plan 33 = .ok (.aload_n 0, 1) := dgX1_plan_22.2.2.2.2.2.2.2.1
theorem dX1_plan_34 : decode cX1_plan 34 = .ok (.getfield 9, 3) := dgX1_plan_22.2.2.2.2.2.2.2.2.1
theorem dX1_plan_37 : decode cX1_plan 37 = .ok (.iconst (-1), 1) := by decide +kernel
theorem dgX1_plan_38 : (decode cX1_plan 38 = .ok (.invokestatic 40, 3)) ∧ (decode cX1_plan 41 = .ok (.aload_n 0, 1)) ∧ (decode cX1_plan 42 = .ok (.getfield 15, 3)) ∧ True := dkW [(38, .invokestatic 40, 3), (41, .aload_n 0, 1), (42, .getfield 15, 3)] 38 (by decide +kernel)
theorem dX1_plan_38 : decode cX1_plan 38 = .ok (.invokestatic 40, 3) := dgX1_plan_38.1
theorem dX1_plan_41 : decode cX1_plan 41 = .ok (.aload_n 0, 1) := dgX1_plan_38.2.1
theorem dX1_plan_42 : decode cX1_plan 42 = .ok (.getfield 15, 3) := dgX1_plan_38.2.2.1
theorem dX1_plan_45 : decode cX1_plan 45 = .ok (.iconst (-1), 1) := by decide +kernel
theorem dgX1_plan_46 : (decode cX1_plan 46 = .ok (.invokestatic 40, 3)) ∧ (decode cX1_plan 49 = .ok (.iconst 0, 1)) ∧ (decode cX1_plan 50 = .ok (.istore_n 3, 1)) ∧ (decode cX1_plan 51 = .ok (.iconst 0, 1)) ∧ (decode cX1_plan 52 = .ok (.istore 4, 2)) ∧ (decode cX1_plan 54 = .ok (.iload 4, 2)) ∧ (decode cX1_plan 56 = .ok (.aload_n 0, 1)) ∧ (decode cX1_plan 57 = .ok (.getfield 21, 3)) ∧ (decode cX1_plan 60 = .ok (.getfield 46, 3)) ∧ (decode cX1_plan 63 = .ok (.if_icmp .ge 69, 3)) ∧ (decode cX1_plan 66 = .ok (.aload_n 0, 1)) ∧ (decode cX1_plan 67 = .ok (.getfield 37, 3)) ∧ True := dkW [(46, .invokestatic 40, 3), (49, .iconst 0, 1), (50, .istore_n 3, 1), (51, .iconst 0, 1), (52, .istore 4, 2), (54, .iload 4, 2), (56, .aload_n 0, 1), (57, .getfield 21, 3), (60, .getfield 46, 3), (63, .if_icmp .ge 69, 3), (66, .aload_n 0, 1), (67, .getfield 37, 3)] 46 (by decide +kernel)
theorem dX1_plan_46 : decode cX1_plan 46 = .ok (.invokestatic 40, 3) := dgX1_plan_46.1
theorem dX1_plan_49 : decode cX1_plan 49 = .ok (.iconst 0, 1) := dgX1_plan_46.2.1
theorem dX1_plan_50 : decode cX1_plan 50 = .ok (.istore_n 3, 1) := dgX1_plan_46.2.2.1
theorem dX1_plan_51 : decode cX1_plan 51 = .ok (.iconst 0, 1) := dgX1_plan_46.2.2.2.1
theorem dX1_plan_52 : decode cX1_plan 52 = .ok (.istore 4, 2) := dgX1_plan_46.2.2.2.2.1
theorem dX1_plan_54 : decode cX1_plan 54 = .ok (.iload 4, 2) := dgX1_plan_46.2.2.2.2.2.1
theorem dX1_plan_56 : decode cX1_plan 56 = .ok (.aload_n 0, 1) := dgX1_plan_46.2.2.2.2.2.2.1
theorem dX1_plan_57 : decode cX1_plan 57 = .ok (.getfield 21, 3) := dgX1_plan_46.2.2.2.2.2.2.2.1
theorem dX1_plan_60 : decode cX1_plan 60 = .ok (.getfield 46, 3) := dgX1_plan_46.2.2.2.2.2.2.2.2.1
theorem dX1_plan_63 : decode cX1_plan 63 = .ok (.if_icmp .ge 69, 3) := dgX1_plan_46.2.2.2.2.2.2.2.2.2.1
theorem dX1_plan_66 : decode cX1_plan 66 = .ok (.aload_n 0, 1) := dgX1_plan_46.2.2.2.2.2.2.2.2.2.2.1
theorem dX1_plan_67 : decode cX1_plan 67 = .ok (.getfield 37, 3) := dgX1_plan_46.2.2.2.2.2.2.2.2.2.2.2.1
theorem dgX1_plan_70 : (decode cX1_plan 70 = .ok (.ifCond .eq 62, 3)) ∧ (decode cX1_plan 73 = .ok (.aload_n 0, 1)) ∧ (decode cX1_plan 74 = .ok (.getfield 21, 3)) ∧ (decode cX1_plan 77 = .ok (.getfield 52, 3)) ∧ (decode cX1_plan 80 = .ok (.iload 4, 2)) ∧ (decode cX1_plan 82 = .ok (.aaload, 1)) ∧ (decode cX1_plan 83 = .ok (.astore 5, 2)) ∧ (decode cX1_plan 85 = .ok (.aload 5, 2)) ∧ (decode cX1_plan 87 = .ok (.getfield 56, 3)) ∧ (decode cX1_plan 90 = .ok (.iload_n 1, 1)) ∧ (decode cX1_plan 91 = .ok (.iaload, 1)) ∧ (decode cX1_plan 92 = .ok (.istore 6, 2)) ∧ True := dkW [(70, .ifCond .eq 62, 3), (73, .aload_n 0, 1), (74, .getfield 21, 3), (77, .getfield 52, 3), (80, .iload 4, 2), (82, .aaload, 1), (83, .astore 5, 2), (85, .aload 5, 2), (87, .getfield 56, 3), (90, .iload_n 1, 1), (91, .iaload, 1), (92, .istore 6, 2)] 70 (by decide +kernel)
theorem dX1_plan_70 : decode cX1_plan 70 = .ok (.ifCond .eq 62, 3) := dgX1_plan_70.1
theorem dX1_plan_73 : decode cX1_plan 73 = .ok (.aload_n 0, 1) := dgX1_plan_70.2.1
theorem dX1_plan_74 : decode cX1_plan 74 = .ok (.getfield 21, 3) := dgX1_plan_70.2.2.1
theorem dX1_plan_77 : decode cX1_plan 77 = .ok (.getfield 52, 3) := dgX1_plan_70.2.2.2.1
theorem dX1_plan_80 : decode cX1_plan 80 = .ok (.iload 4, 2) := dgX1_plan_70.2.2.2.2.1
theorem dX1_plan_82 : decode cX1_plan 82 = .ok (.aaload, 1) := dgX1_plan_70.2.2.2.2.2.1
theorem dX1_plan_83 : decode cX1_plan 83 = .ok (.astore 5, 2) := dgX1_plan_70.2.2.2.2.2.2.1
theorem dX1_plan_85 : decode cX1_plan 85 = .ok (.aload 5, 2) := dgX1_plan_70.2.2.2.2.2.2.2.1
theorem dX1_plan_87 : decode cX1_plan 87 = .ok (.getfield 56, 3) := dgX1_plan_70.2.2.2.2.2.2.2.2.1
theorem dX1_plan_90 : decode cX1_plan 90 = .ok (.iload_n 1, 1) := dgX1_plan_70.2.2.2.2.2.2.2.2.2.1
theorem dX1_plan_91 : decode cX1_plan 91 = .ok (.iaload, 1) := dgX1_plan_70.2.2.2.2.2.2.2.2.2.2.1
theorem dX1_plan_92 : decode cX1_plan 92 = .ok (.istore 6, 2) := dgX1_plan_70.2.2.2.2.2.2.2.2.2.2.2.1
theorem dgX1_plan_94 : (decode cX1_plan 94 = .ok (.iload 6, 2)) ∧ True := dkW [(94, .iload 6, 2)] 94 (by decide +kernel)
theorem dX1_plan_94 : decode cX1_plan 94 = .ok (.iload 6, 2) := dgX1_plan_94.1
theorem dX1_plan_96 : decode cX1_plan 96 = .ok (.iconst (-1), 1) := by decide +kernel
theorem dgX1_plan_97 : (decode cX1_plan 97 = .ok (.if_icmp .eq 29, 3)) ∧ (decode cX1_plan 100 = .ok (.iload 6, 2)) ∧ (decode cX1_plan 102 = .ok (.aload 5, 2)) ∧ (decode cX1_plan 104 = .ok (.getfield 61, 3)) ∧ (decode cX1_plan 107 = .ok (.if_icmp .eq 19, 3)) ∧ (decode cX1_plan 110 = .ok (.iinc 3 1, 3)) ∧ (decode cX1_plan 113 = .ok (.aload_n 0, 1)) ∧ (decode cX1_plan 114 = .ok (.aload_n 0, 1)) ∧ (decode cX1_plan 115 = .ok (.aload 5, 2)) ∧ (decode cX1_plan 117 = .ok (.iload 6, 2)) ∧ (decode cX1_plan 119 = .ok (.iload_n 2, 1)) ∧ (decode cX1_plan 120 = .ok (.invokevirtual 64, 3)) ∧ True := dkW [(97, .if_icmp .eq 29, 3), (100, .iload 6, 2), (102, .aload 5, 2), (104, .getfield 61, 3), (107, .if_icmp .eq 19, 3), (110, .iinc 3 1, 3), (113, .aload_n 0, 1), (114, .aload_n 0, 1), (115, .aload 5, 2), (117, .iload 6, 2), (119, .iload_n 2, 1), (120, .invokevirtual 64, 3)] 97 (by decide +kernel)
theorem dX1_plan_97 : decode cX1_plan 97 = .ok (.if_icmp .eq 29, 3) := dgX1_plan_97.1
theorem dX1_plan_100 : decode cX1_plan 100 = .ok (.iload 6, 2) := dgX1_plan_97.2.1
theorem dX1_plan_102 : decode cX1_plan 102 = .ok (.aload 5, 2) := dgX1_plan_97.2.2.1
theorem dX1_plan_104 : decode cX1_plan 104 = .ok (.getfield 61, 3) := dgX1_plan_97.2.2.2.1
theorem dX1_plan_107 : decode cX1_plan 107 = .ok (.if_icmp .eq 19, 3) := dgX1_plan_97.2.2.2.2.1
theorem dX1_plan_110 : decode cX1_plan 110 = .ok (.iinc 3 1, 3) := dgX1_plan_97.2.2.2.2.2.1
theorem dX1_plan_113 : decode cX1_plan 113 = .ok (.aload_n 0, 1) := dgX1_plan_97.2.2.2.2.2.2.1
theorem dX1_plan_114 : decode cX1_plan 114 = .ok (.aload_n 0, 1) := dgX1_plan_97.2.2.2.2.2.2.2.1
theorem dX1_plan_115 : decode cX1_plan 115 = .ok (.aload 5, 2) := dgX1_plan_97.2.2.2.2.2.2.2.2.1
theorem dX1_plan_117 : decode cX1_plan 117 = .ok (.iload 6, 2) := dgX1_plan_97.2.2.2.2.2.2.2.2.2.1
theorem dX1_plan_119 : decode cX1_plan 119 = .ok (.iload_n 2, 1) := dgX1_plan_97.2.2.2.2.2.2.2.2.2.2.1
theorem dX1_plan_120 : decode cX1_plan 120 = .ok (.invokevirtual 64, 3) := dgX1_plan_97.2.2.2.2.2.2.2.2.2.2.2.1
theorem dgX1_plan_123 : (decode cX1_plan 123 = .ok (.putfield 37, 3)) ∧ (decode cX1_plan 126 = .ok (.iinc 4 1, 3)) ∧ (decode cX1_plan 129 = .ok (.goto (-75), 3)) ∧ (decode cX1_plan 132 = .ok (.aload_n 0, 1)) ∧ (decode cX1_plan 133 = .ok (.invokevirtual 68, 3)) ∧ (decode cX1_plan 136 = .ok (.aload_n 0, 1)) ∧ (decode cX1_plan 137 = .ok (.getfield 37, 3)) ∧ (decode cX1_plan 140 = .ok (.ifCond .eq 7, 3)) ∧ (decode cX1_plan 143 = .ok (.iload_n 3, 1)) ∧ (decode cX1_plan 144 = .ok (.goto 5, 3)) ∧ (decode cX1_plan 147 = .ok (.bipush (-2), 2)) ∧ (decode cX1_plan 149 = .ok (.ireturn, 1)) ∧ True := dkW [(123, .putfield 37, 3), (126, .iinc 4 1, 3), (129, .goto (-75), 3), (132, .aload_n 0, 1), (133, .invokevirtual 68, 3), (136, .aload_n 0, 1), (137, .getfield 37, 3), (140, .ifCond .eq 7, 3), (143, .iload_n 3, 1), (144, .goto 5, 3), (147, .bipush (-2), 2), (149, .ireturn, 1)] 123 (by decide +kernel)
theorem dX1_plan_123 : decode cX1_plan 123 = .ok (.putfield 37, 3) := dgX1_plan_123.1
theorem dX1_plan_126 : decode cX1_plan 126 = .ok (.iinc 4 1, 3) := dgX1_plan_123.2.1
theorem dX1_plan_129 : decode cX1_plan 129 = .ok (.goto (-75), 3) := dgX1_plan_123.2.2.1
theorem dX1_plan_132 : decode cX1_plan 132 = .ok (.aload_n 0, 1) := dgX1_plan_123.2.2.2.1
theorem dX1_plan_133 : decode cX1_plan 133 = .ok (.invokevirtual 68, 3) := dgX1_plan_123.2.2.2.2.1
theorem dX1_plan_136 : decode cX1_plan 136 = .ok (.aload_n 0, 1) := dgX1_plan_123.2.2.2.2.2.1
theorem dX1_plan_137 : decode cX1_plan 137 = .ok (.getfield 37, 3) := dgX1_plan_123.2.2.2.2.2.2.1
theorem dX1_plan_140 : decode cX1_plan 140 = .ok (.ifCond .eq 7, 3) := dgX1_plan_123.2.2.2.2.2.2.2.1
theorem dX1_plan_143 : decode cX1_plan 143 = .ok (.iload_n 3, 1) := dgX1_plan_123.2.2.2.2.2.2.2.2.1
theorem dX1_plan_144 : decode cX1_plan 144 = .ok (.goto 5, 3) := dgX1_plan_123.2.2.2.2.2.2.2.2.2.1
theorem dX1_plan_147 : decode cX1_plan 147 = .ok (.bipush (-2), 2) := dgX1_plan_123.2.2.2.2.2.2.2.2.2.2.1
theorem dX1_plan_149 : decode cX1_plan 149 = .ok (.ireturn, 1) := dgX1_plan_123.2.2.2.2.2.2.2.2.2.2.2.1
abbrev rmX1_plan : Room := { frames := 4, cells := 0, slots := 0, locals := 94 }
noncomputable def fX1_plan_b21 (N : Nat)  (t : Nat) (h : Hs)  : Option (Int32 × Hs) :=
  some ((-1), h)
set_option maxHeartbeats 4000000 in
set_option maxRecDepth 20000 in
theorem wX1_plan_b21 {p : Program} {l : Launch} {e : Env} {s : State} {m : MethodId} {args : Array Value} {below : List Frame} {meth : Method} {c : Code} {G : Gl} {N : Nat} {h : Hs} {r : Int32 × Hs}  {t : Nat}  (C : Cx p s m args meth c cX1_plan RX1 7 G) (hret : meth.sig.returnType = (some .int))  (hf : fX1_plan_b21 N  t h  = some r) : V p l e rmX1_plan s m args below meth c G 7 (MQ below (QcG G (some (.inl r.1)) r.2) args s rmX1_plan.cells rmX1_plan.slots (AG G)) h 0 0 21 [some (.inr (some t)), none, none, none, none, none, none] [] := by
  unfold fX1_plan_b21 at hf
  refine r_iconst (v := -1) C dX1_plan_21 (by decide) ?_
  exact r_iretF C dX1_plan_22 hret hf (by decide) (by decide)
noncomputable def fX1_plan_b149 (N : Nat)  (t : Nat) (h : Hs) (u0 : Int32) : Option (Int32 × Hs) :=
  some (u0, h)
set_option maxHeartbeats 4000000 in
set_option maxRecDepth 20000 in
theorem wX1_plan_b149 {p : Program} {l : Launch} {e : Env} {s : State} {m : MethodId} {args : Array Value} {below : List Frame} {meth : Method} {c : Code} {G : Gl} {N : Nat} {h : Hs} {r : Int32 × Hs}  {t : Nat} {u0 : Int32} (C : Cx p s m args meth c cX1_plan RX1 7 G) (hret : meth.sig.returnType = (some .int))  (hf : fX1_plan_b149 N  t h u0 = some r) : V p l e rmX1_plan s m args below meth c G 7 (MQ below (QcG G (some (.inl r.1)) r.2) args s rmX1_plan.cells rmX1_plan.slots (AG G)) h 0 0 149 [some (.inr (some t)), none, none, none, none, none, none] [.inl u0] := by
  unfold fX1_plan_b149 at hf
  exact r_iretF C dX1_plan_149 hret hf (by decide) (by decide)
noncomputable def fX1_plan_b132 (N : Nat)  (t : Nat) (h : Hs) (x3 : Int32) : Option (Int32 × Hs) :=
  (rc 1 h (some t)).bind fun a2 =>
  (fX1_countWorks N h a2 ).bind fun r1 =>
  (oI 1 5 r1 (some t)).bind fun v3 =>
  if v3 = 0 then (
  fX1_plan_b149 N t r1 (-2))
  else fX1_plan_b149 N t r1 x3
set_option maxHeartbeats 4000000 in
set_option maxRecDepth 20000 in
theorem wX1_plan_b132 {p : Program} {l : Launch} {e : Env} {s : State} {m : MethodId} {args : Array Value} {below : List Frame} {meth : Method} {c : Code} {G : Gl} {N : Nat} {h : Hs} {r : Int32 × Hs}  {t : Nat} {x3 : Int32} (C : Cx p s m args meth c cX1_plan RX1 7 G) (hret : meth.sig.returnType = (some .int))  (hf : fX1_plan_b132 N  t h x3 = some r) : V p l e rmX1_plan s m args below meth c G 7 (MQ below (QcG G (some (.inl r.1)) r.2) args s rmX1_plan.cells rmX1_plan.slots (AG G)) h 0 0 132 [some (.inr (some t)), none, none, some (.inl x3), none, none, none] [] := by
  unfold fX1_plan_b132 at hf
  refine r_aload_n C dX1_plan_132 rfl ?_
  obtain ⟨a2, ea2, hf⟩ := bS hf
  obtain ⟨r1, er1, hf⟩ := bS hf
  refine r_invV0 (As := []) (ci := 1) C dX1_plan_133 mcX1_countWorks wd_721 wd_723 wp_10 rfl rfl (by decide) ⟨by decide, by decide⟩ ⟨by decide, by decide⟩ rfl (Nat.le_of_ble_eq_true rfl) ea2 (kX1_countWorks l G er1) ?_
  refine r_aload_n C dX1_plan_136 rfl ?_
  obtain ⟨v3, ev3, hf⟩ := bS hf
  refine r_getI C dX1_plan_137 fl_X1_37 rfl ev3 ?_
  refine r_if_eq (tgt := 147) C dX1_plan_140 (by decide) (fun hc => ?_) (fun hc => ?_)
  · have hf := ifT hf hc
    refine r_bipush (v := -2) C dX1_plan_147 (by decide) ?_
    exact V.sub (wX1_plan_b149 C hret hf) (LW_s rfl (LW_n (LW_n (LW_n (LW_n (LW_n (LW_n (LW_e))))))))
  · have hf := ifF hf hc
    refine r_iload_n C dX1_plan_143 rfl ?_
    refine r_goto (tgt := 149) C dX1_plan_144 (by decide) ?_
    exact V.sub (wX1_plan_b149 C hret hf) (LW_s rfl (LW_n (LW_n (LW_n (LW_n (LW_n (LW_n (LW_e))))))))
noncomputable def fX1_plan_b126 (N : Nat) (g54 : Hs → Int32 → Int32 → Int32 → Int32 → Option (Int32 × Hs)) (t : Nat) (h : Hs) (x1 : Int32) (x2 : Int32) (x3 : Int32) (x4 : Int32) : Option (Int32 × Hs) :=
  (some (x4 + 1)).bind fun y1 =>
  g54 h x1 x2 x3 y1
set_option maxHeartbeats 4000000 in
set_option maxRecDepth 20000 in
theorem wX1_plan_b126 {p : Program} {l : Launch} {e : Env} {s : State} {m : MethodId} {args : Array Value} {below : List Frame} {meth : Method} {c : Code} {G : Gl} {N : Nat} {h : Hs} {r : Int32 × Hs} {g54 : Hs → Int32 → Int32 → Int32 → Int32 → Option (Int32 × Hs)} {t : Nat} {x1 : Int32} {x2 : Int32} {x3 : Int32} {x4 : Int32} (C : Cx p s m args meth c cX1_plan RX1 7 G) (hret : meth.sig.returnType = (some .int)) (hg54 : ∀ (h : Hs) (x1 : Int32) (x2 : Int32) (x3 : Int32) (x4 : Int32), g54 h x1 x2 x3 x4 = some r → V p l e rmX1_plan s m args below meth c G 7 (MQ below (QcG G (some (.inl r.1)) r.2) args s rmX1_plan.cells rmX1_plan.slots (AG G)) h 0 0 54 [some (.inr (some t)), some (.inl x1), some (.inl x2), some (.inl x3), some (.inl x4), none, none] []) (hf : fX1_plan_b126 N g54 t h x1 x2 x3 x4 = some r) : V p l e rmX1_plan s m args below meth c G 7 (MQ below (QcG G (some (.inl r.1)) r.2) args s rmX1_plan.cells rmX1_plan.slots (AG G)) h 0 0 126 [some (.inr (some t)), some (.inl x1), some (.inl x2), some (.inl x3), some (.inl x4), none, none] [] := by
  unfold fX1_plan_b126 at hf
  obtain ⟨y1, ey1, hf⟩ := bS hf
  refine r_iincE (v := 1) C dX1_plan_126 rfl (by decide) (by decide) ey1 ?_
  refine r_goto (tgt := 54) C dX1_plan_129 (by decide) ?_
  exact V.sub (hg54 _ _ _ _ _ hf) (LW_s rfl (LW_s rfl (LW_s rfl (LW_s rfl (LW_s rfl (LW_n (LW_n (LW_e))))))))
noncomputable def fX1_plan_b54_body (N : Nat)  (g54 : Hs → Int32 → Int32 → Int32 → Int32 → Option (Int32 × Hs)) (t : Nat) (h : Hs) (x1 : Int32) (x2 : Int32) (x3 : Int32) (x4 : Int32) : Option (Int32 × Hs) :=
  (oR 1 0 h (some t)).bind fun o1 =>
  (oI 5 7 h o1).bind fun v2 =>
  if v2 ≤ x4 then (
  fX1_plan_b132 N t h x3)
  else (oI 1 5 h (some t)).bind fun v3 =>
  if v3 = 0 then (
  fX1_plan_b132 N t h x3)
  else (oR 1 0 h (some t)).bind fun o4 =>
  (oR 5 0 h o4).bind fun o5 =>
  (lQ 23 h o5 x4).bind fun o6 =>
  (oR 9 6 h o6).bind fun o7 =>
  (lA 20 h o7 x1).bind fun v8 =>
  if v8 = (-1) then (
  fX1_plan_b126 N g54 t h x1 x2 x3 x4)
  else (oI 9 7 h o6).bind fun v9 =>
  if v8 = v9 then (
  fX1_plan_b126 N g54 t h x1 x2 x3 x4)
  else (some (x3 + 1)).bind fun y10 =>
  (rc 1 h (some t)).bind fun a12 =>
  (fX1_findTie N h a12 o6 v8 x2).bind fun r11 =>
  (qZ 1 5 r11.2 (some t) r11.1).bind fun h13 =>
  fX1_plan_b126 N g54 t h13 x1 x2 y10 x4
noncomputable def fX1_plan_b54 (N : Nat)  (t : Nat) (n : Nat) : Hs → Int32 → Int32 → Int32 → Int32 → Option (Int32 × Hs) := lp (fun _ _ _ _ _ => none) (fun g h x1 x2 x3 x4 => fX1_plan_b54_body N  g t h x1 x2 x3 x4) n
set_option maxHeartbeats 4000000 in
set_option maxRecDepth 20000 in
theorem wX1_plan_b54_body {p : Program} {l : Launch} {e : Env} {s : State} {m : MethodId} {args : Array Value} {below : List Frame} {meth : Method} {c : Code} {G : Gl} {N : Nat} {h : Hs} {r : Int32 × Hs}  {g54 : Hs → Int32 → Int32 → Int32 → Int32 → Option (Int32 × Hs)} {t : Nat} {x1 : Int32} {x2 : Int32} {x3 : Int32} {x4 : Int32} (C : Cx p s m args meth c cX1_plan RX1 7 G) (hret : meth.sig.returnType = (some .int))  (hg54 : ∀ (h : Hs) (x1 : Int32) (x2 : Int32) (x3 : Int32) (x4 : Int32), g54 h x1 x2 x3 x4 = some r → V p l e rmX1_plan s m args below meth c G 7 (MQ below (QcG G (some (.inl r.1)) r.2) args s rmX1_plan.cells rmX1_plan.slots (AG G)) h 0 0 54 [some (.inr (some t)), some (.inl x1), some (.inl x2), some (.inl x3), some (.inl x4), none, none] []) (hf : fX1_plan_b54_body N  g54 t h x1 x2 x3 x4 = some r) : V p l e rmX1_plan s m args below meth c G 7 (MQ below (QcG G (some (.inl r.1)) r.2) args s rmX1_plan.cells rmX1_plan.slots (AG G)) h 0 0 54 [some (.inr (some t)), some (.inl x1), some (.inl x2), some (.inl x3), some (.inl x4), none, none] [] := by
  unfold fX1_plan_b54_body at hf
  refine r_iload C dX1_plan_54 rfl ?_
  refine r_aload_n C dX1_plan_56 rfl ?_
  obtain ⟨o1, eo1, hf⟩ := bS hf
  refine r_getR C dX1_plan_57 fl_X1_21 rfl eo1 ?_
  obtain ⟨v2, ev2, hf⟩ := bS hf
  refine r_getI C dX1_plan_60 fl_X1_46 rfl ev2 ?_
  refine r_icmp_ge (tgt := 132) C dX1_plan_63 (by decide) (fun hc => ?_) (fun hc => ?_)
  · have hf := ifT hf hc
    exact V.sub (wX1_plan_b132 C hret hf) (LW_s rfl (LW_n (LW_n (LW_s rfl (LW_n (LW_n (LW_n (LW_e))))))))
  · have hf := ifF hf hc
    refine r_aload_n C dX1_plan_66 rfl ?_
    obtain ⟨v3, ev3, hf⟩ := bS hf
    refine r_getI C dX1_plan_67 fl_X1_37 rfl ev3 ?_
    refine r_if_eq (tgt := 132) C dX1_plan_70 (by decide) (fun hc => ?_) (fun hc => ?_)
    · have hf := ifT hf hc
      exact V.sub (wX1_plan_b132 C hret hf) (LW_s rfl (LW_n (LW_n (LW_s rfl (LW_n (LW_n (LW_n (LW_e))))))))
    · have hf := ifF hf hc
      refine r_aload_n C dX1_plan_73 rfl ?_
      obtain ⟨o4, eo4, hf⟩ := bS hf
      refine r_getR C dX1_plan_74 fl_X1_21 rfl eo4 ?_
      obtain ⟨o5, eo5, hf⟩ := bS hf
      refine r_getR C dX1_plan_77 fl_X1_52 rfl eo5 ?_
      refine r_iload C dX1_plan_80 rfl ?_
      obtain ⟨o6, eo6, hf⟩ := bS hf
      refine r_qald (t := 3) C dX1_plan_82 (by decide) (by decide) rfl eo6 ?_
      refine r_astore C dX1_plan_83 (by decide) ?_
      refine r_aload C dX1_plan_85 rfl ?_
      obtain ⟨o7, eo7, hf⟩ := bS hf
      refine r_getR C dX1_plan_87 fl_X1_56 rfl eo7 ?_
      refine r_iload_n C dX1_plan_90 rfl ?_
      obtain ⟨v8, ev8, hf⟩ := bS hf
      refine r_iald C dX1_plan_91 ev8 ?_
      refine r_istore C dX1_plan_92 (by decide) ?_
      refine r_iload C dX1_plan_94 rfl ?_
      refine r_iconst (v := -1) C dX1_plan_96 (by decide) ?_
      refine r_icmp_eq (tgt := 126) C dX1_plan_97 (by decide) (fun hc => ?_) (fun hc => ?_)
      · have hf := ifT hf hc
        exact V.sub (wX1_plan_b126 C hret hg54 hf) (LW_s rfl (LW_s rfl (LW_s rfl (LW_s rfl (LW_s rfl (LW_n (LW_n (LW_e))))))))
      · have hf := ifF hf hc
        refine r_iload C dX1_plan_100 rfl ?_
        refine r_aload C dX1_plan_102 rfl ?_
        obtain ⟨v9, ev9, hf⟩ := bS hf
        refine r_getI C dX1_plan_104 fl_X1_61 rfl ev9 ?_
        refine r_icmp_eq (tgt := 126) C dX1_plan_107 (by decide) (fun hc => ?_) (fun hc => ?_)
        · have hf := ifT hf hc
          exact V.sub (wX1_plan_b126 C hret hg54 hf) (LW_s rfl (LW_s rfl (LW_s rfl (LW_s rfl (LW_s rfl (LW_n (LW_n (LW_e))))))))
        · have hf := ifF hf hc
          obtain ⟨y10, ey10, hf⟩ := bS hf
          refine r_iincE (v := 1) C dX1_plan_110 rfl (by decide) (by decide) ey10 ?_
          refine r_aload_n C dX1_plan_113 rfl ?_
          refine r_aload_n C dX1_plan_114 rfl ?_
          refine r_aload C dX1_plan_115 rfl ?_
          refine r_iload C dX1_plan_117 rfl ?_
          refine r_iload_n C dX1_plan_119 rfl ?_
          obtain ⟨a12, ea12, hf⟩ := bS hf
          obtain ⟨r11, er11, hf⟩ := bS hf
          refine r_invV1 (As := [.inr o6, .inl v8, .inl x2]) (ci := 1) C dX1_plan_120 mcX1_findTie wd_711 wd_713 wp_8 rfl rfl (by decide) ⟨by decide, by decide⟩ ⟨by decide, by decide⟩ rfl (Nat.le_of_ble_eq_true rfl) ea12 (kX1_findTie l G er11) ?_
          obtain ⟨h13, eh13, hf⟩ := bS hf
          refine r_putZ C dX1_plan_123 fl_X1_37 (Or.inl fn_1_5) rfl eh13 ?_
          exact V.sub (wX1_plan_b126 C hret hg54 hf) (LW_s rfl (LW_s rfl (LW_s rfl (LW_s rfl (LW_s rfl (LW_n (LW_n (LW_e))))))))
theorem wX1_plan_b54 {p : Program} {l : Launch} {e : Env} {s : State} {m : MethodId} {args : Array Value} {below : List Frame} {meth : Method} {c : Code} {G : Gl} {N : Nat} {r : Int32 × Hs}  {t : Nat} (C : Cx p s m args meth c cX1_plan RX1 7 G) (hret : meth.sig.returnType = (some .int))  : ∀ (n : Nat) (h : Hs) (x1 : Int32) (x2 : Int32) (x3 : Int32) (x4 : Int32), fX1_plan_b54 N  t n h x1 x2 x3 x4 = some r → V p l e rmX1_plan s m args below meth c G 7 (MQ below (QcG G (some (.inl r.1)) r.2) args s rmX1_plan.cells rmX1_plan.slots (AG G)) h 0 0 54 [some (.inr (some t)), some (.inl x1), some (.inl x2), some (.inl x3), some (.inl x4), none, none] [] := by
  intro n
  induction n with
  | zero => intro h x1 x2 x3 x4 hf; exact absurd (show (none : Option (Int32 × Hs)) = some r from hf) (fun q => by cases q)
  | succ n ih => intro h x1 x2 x3 x4 hf; exact wX1_plan_b54_body C hret  ih (show fX1_plan_b54_body N  (fX1_plan_b54 N  t n) t h x1 x2 x3 x4 = some r from hf)
noncomputable def fX1_plan (N : Nat) (h : Hs) (t : Nat) (p1 : Int32) (p2 : Int32) : Option (Int32 × Hs) :=
  (fX11_isWithin N h p1 0 9).bind fun r1 =>
  if r1.1 = 0 then (
  fX1_plan_b21 N t r1.2)
  else (fX11_isTurn N r1.2 p2).bind fun r2 =>
  if r2.1 = 0 then (
  fX1_plan_b21 N t r2.2)
  else if p2 = 0 then (
  fX1_plan_b21 N t r2.2)
  else (qZ 1 4 r2.2 (some t) 1).bind fun h3 =>
  (qZ 1 5 h3 (some t) 1).bind fun h4 =>
  (oR 1 1 h4 (some t)).bind fun o5 =>
  (fJ7_fill_53178 N h4 o5 (-1)).bind fun r6 =>
  (oR 1 2 r6 (some t)).bind fun o7 =>
  (fJ7_fill_53178 N r6 o7 (-1)).bind fun r8 =>
  fX1_plan_b54 N t N r8 p1 p2 0 0
set_option maxHeartbeats 4000000 in
set_option maxRecDepth 20000 in
theorem kX1_plan (l : Launch) (G : Gl) {N : Nat} {h : Hs} {t : Nat} {p1 : Int32} {p2 : Int32} {r : Int32 × Hs} (hf : fX1_plan N h t p1 p2 = some r) : CT l G yX1_plan cX1_plan 7 (some .int) rmX1_plan [.inr (some t), .inl p1, .inl p2] h (some (.inl r.1)) r.2 := by
  refine mk_CT (by decide) (Nat.le_of_ble_eq_true rfl) ?_
  intro p e s m args below meth c C hret hin
  unfold fX1_plan at hf
  refine r_iload_n C dX1_plan_0 rfl ?_
  refine r_iconst (v := 0) C dX1_plan_1 (by decide) ?_
  refine r_bipush (v := 9) C dX1_plan_2 (by decide) ?_
  obtain ⟨r1, er1, hf⟩ := bS hf
  refine r_invSN1 (As := [.inl p1, .inl 0, .inl 9]) (host := "StageMachine") C dX1_plan_4 mcX11_isWithin (by decide) wd_291 ⟨by decide, by decide⟩ ⟨by decide, by decide⟩ rfl (Nat.le_of_ble_eq_true rfl) (kX11_isWithin l G er1) ?_
  refine r_if_eq (tgt := 21) C dX1_plan_7 (by decide) (fun hc => ?_) (fun hc => ?_)
  · have hf := ifT hf hc
    exact V.sub (wX1_plan_b21 C hret hf) (LW_s rfl (LW_n (LW_n (LW_n (LW_n (LW_n (LW_n (LW_e))))))))
  · have hf := ifF hf hc
    refine r_iload_n C dX1_plan_10 rfl ?_
    obtain ⟨r2, er2, hf⟩ := bS hf
    refine r_invSN1 (As := [.inl p2]) (host := "StageMachine") C dX1_plan_11 mcX11_isTurn (by decide) wd_587 ⟨by decide, by decide⟩ ⟨by decide, by decide⟩ rfl (Nat.le_of_ble_eq_true rfl) (kX11_isTurn l G er2) ?_
    refine r_if_eq (tgt := 21) C dX1_plan_14 (by decide) (fun hc => ?_) (fun hc => ?_)
    · have hf := ifT hf hc
      exact V.sub (wX1_plan_b21 C hret hf) (LW_s rfl (LW_n (LW_n (LW_n (LW_n (LW_n (LW_n (LW_e))))))))
    · have hf := ifF hf hc
      refine r_iload_n C dX1_plan_17 rfl ?_
      refine r_if_ne (tgt := 23) C dX1_plan_18 (by decide) (fun hc => ?_) (fun hc => ?_)
      · have hf := ifF hf hc
        refine r_aload_n C dX1_plan_23 rfl ?_
        refine r_iconst (v := 1) C dX1_plan_24 (by decide) ?_
        obtain ⟨h3, eh3, hf⟩ := bS hf
        refine r_putZ C dX1_plan_25 fl_X1_33 (Or.inl fn_1_4) rfl eh3 ?_
        refine r_aload_n C dX1_plan_28 rfl ?_
        refine r_iconst (v := 1) C dX1_plan_29 (by decide) ?_
        obtain ⟨h4, eh4, hf⟩ := bS hf
        refine r_putZ C dX1_plan_30 fl_X1_37 (Or.inl fn_1_5) rfl eh4 ?_
        refine r_aload_n C dX1_plan_33 rfl ?_
        obtain ⟨o5, eo5, hf⟩ := bS hf
        refine r_getR C dX1_plan_34 fl_X1_9 rfl eo5 ?_
        refine r_iconst (v := -1) C dX1_plan_37 (by decide) ?_
        obtain ⟨r6, er6, hf⟩ := bS hf
        refine r_invS0 (As := [.inr o5, .inl (-1)]) C dX1_plan_38 mcJ7_fill_53178 wd_710 wd_309 ⟨by decide, by decide⟩ ⟨by decide, by decide⟩ rfl (Nat.le_of_ble_eq_true rfl) (kJ7_fill_53178 l G er6) ?_
        refine r_aload_n C dX1_plan_41 rfl ?_
        obtain ⟨o7, eo7, hf⟩ := bS hf
        refine r_getR C dX1_plan_42 fl_X1_15 rfl eo7 ?_
        refine r_iconst (v := -1) C dX1_plan_45 (by decide) ?_
        obtain ⟨r8, er8, hf⟩ := bS hf
        refine r_invS0 (As := [.inr o7, .inl (-1)]) C dX1_plan_46 mcJ7_fill_53178 wd_710 wd_309 ⟨by decide, by decide⟩ ⟨by decide, by decide⟩ rfl (Nat.le_of_ble_eq_true rfl) (kJ7_fill_53178 l G er8) ?_
        refine r_iconst (v := 0) C dX1_plan_49 (by decide) ?_
        refine r_istore_n C dX1_plan_50 (by decide) ?_
        refine r_iconst (v := 0) C dX1_plan_51 (by decide) ?_
        refine r_istore C dX1_plan_52 (by decide) ?_
        exact V.sub (wX1_plan_b54 C hret N _ _ _ _ _ hf) (LW_s rfl (LW_s rfl (LW_s rfl (LW_s rfl (LW_s rfl (LW_n (LW_n (LW_e))))))))
      · have hf := ifT hf hc
        exact V.sub (wX1_plan_b21 C hret hf) (LW_s rfl (LW_n (LW_n (LW_n (LW_n (LW_n (LW_n (LW_e))))))))

theorem dgX5_thingNumbered_0 : (decode cX5_thingNumbered 0 = .ok (.iload_n 1, 1)) ∧ (decode cX5_thingNumbered 1 = .ok (.iconst 0, 1)) ∧ (decode cX5_thingNumbered 2 = .ok (.aload_n 0, 1)) ∧ (decode cX5_thingNumbered 3 = .ok (.getfield 47, 3)) ∧ (decode cX5_thingNumbered 6 = .ok (.iconst 1, 1)) ∧ (decode cX5_thingNumbered 7 = .ok (.isub, 1)) ∧ (decode cX5_thingNumbered 8 = .ok (.invokestatic 50, 3)) ∧ (decode cX5_thingNumbered 11 = .ok (.ifCond .eq 12, 3)) ∧ (decode cX5_thingNumbered 14 = .ok (.aload_n 0, 1)) ∧ (decode cX5_thingNumbered 15 = .ok (.getfield 11, 3)) ∧ (decode cX5_thingNumbered 18 = .ok (.iload_n 1, 1)) ∧ (decode cX5_thingNumbered 19 = .ok (.aaload, 1)) ∧ True := dkW [(0, .iload_n 1, 1), (1, .iconst 0, 1), (2, .aload_n 0, 1), (3, .getfield 47, 3), (6, .iconst 1, 1), (7, .isub, 1), (8, .invokestatic 50, 3), (11, .ifCond .eq 12, 3), (14, .aload_n 0, 1), (15, .getfield 11, 3), (18, .iload_n 1, 1), (19, .aaload, 1)] 0 (by decide +kernel)
theorem dX5_thingNumbered_0 : decode cX5_thingNumbered 0 = .ok (.iload_n 1, 1) := dgX5_thingNumbered_0.1
theorem dX5_thingNumbered_1 : decode cX5_thingNumbered 1 = .ok (.iconst 0, 1) := dgX5_thingNumbered_0.2.1
theorem dX5_thingNumbered_2 : decode cX5_thingNumbered 2 = .ok (.aload_n 0, 1) := dgX5_thingNumbered_0.2.2.1
theorem dX5_thingNumbered_3 : decode cX5_thingNumbered 3 = .ok (.getfield 47, 3) := dgX5_thingNumbered_0.2.2.2.1
theorem dX5_thingNumbered_6 : decode cX5_thingNumbered 6 = .ok (.iconst 1, 1) := dgX5_thingNumbered_0.2.2.2.2.1
theorem dX5_thingNumbered_7 : decode cX5_thingNumbered 7 = .ok (.isub, 1) := dgX5_thingNumbered_0.2.2.2.2.2.1
theorem dX5_thingNumbered_8 : decode cX5_thingNumbered 8 = .ok (.invokestatic 50, 3) := dgX5_thingNumbered_0.2.2.2.2.2.2.1
theorem dX5_thingNumbered_11 : decode cX5_thingNumbered 11 = .ok (.ifCond .eq 12, 3) := dgX5_thingNumbered_0.2.2.2.2.2.2.2.1
theorem dX5_thingNumbered_14 : decode cX5_thingNumbered 14 = .ok (.aload_n 0, 1) := dgX5_thingNumbered_0.2.2.2.2.2.2.2.2.1
theorem dX5_thingNumbered_15 : decode cX5_thingNumbered 15 = .ok (.getfield 11, 3) := dgX5_thingNumbered_0.2.2.2.2.2.2.2.2.2.1
theorem dX5_thingNumbered_18 : decode cX5_thingNumbered 18 = .ok (.iload_n 1, 1) := dgX5_thingNumbered_0.2.2.2.2.2.2.2.2.2.2.1
theorem dX5_thingNumbered_19 : decode cX5_thingNumbered 19 = .ok (.aaload, 1) := dgX5_thingNumbered_0.2.2.2.2.2.2.2.2.2.2.2.1
theorem dgX5_thingNumbered_20 : (decode cX5_thingNumbered 20 = .ok (.goto 4, 3)) ∧ (decode cX5_thingNumbered 23 = .ok (.aconst_null, 1)) ∧ (decode cX5_thingNumbered 24 = .ok (.areturn, 1)) ∧ True := dkW [(20, .goto 4, 3), (23, .aconst_null, 1), (24, .areturn, 1)] 20 (by decide +kernel)
theorem dX5_thingNumbered_20 : decode cX5_thingNumbered 20 = .ok (.goto 4, 3) := dgX5_thingNumbered_20.1
theorem dX5_thingNumbered_23 : decode cX5_thingNumbered 23 = .ok (.aconst_null, 1) := dgX5_thingNumbered_20.2.1
theorem dX5_thingNumbered_24 : decode cX5_thingNumbered 24 = .ok (.areturn, 1) := dgX5_thingNumbered_20.2.2.1
abbrev rmX5_thingNumbered : Room := { frames := 1, cells := 0, slots := 0, locals := 22 }
noncomputable def fX5_thingNumbered_b24 (N : Nat)  (t : Nat) (h : Hs) (q0 : Option Nat) : Option (Option Nat × Hs) :=
  some (q0, h)
set_option maxHeartbeats 4000000 in
set_option maxRecDepth 20000 in
theorem wX5_thingNumbered_b24 {p : Program} {l : Launch} {e : Env} {s : State} {m : MethodId} {args : Array Value} {below : List Frame} {meth : Method} {c : Code} {G : Gl} {N : Nat} {h : Hs} {r : Option Nat × Hs}  {t : Nat} {q0 : Option Nat} (C : Cx p s m args meth c cX5_thingNumbered RX5 2 G) (hret : meth.sig.returnType = (Option.some (FieldType.object "StageMachine$Thing")))  (hf : fX5_thingNumbered_b24 N  t h q0 = some r) : V p l e rmX5_thingNumbered s m args below meth c G 2 (MQ below (QcG G (some (.inr r.1)) r.2) args s rmX5_thingNumbered.cells rmX5_thingNumbered.slots (AG G)) h 0 0 24 [some (.inr (some t)), none] [.inr q0] := by
  unfold fX5_thingNumbered_b24 at hf
  exact r_aretF C dX5_thingNumbered_24 hret hf (by decide) (by decide)
noncomputable def fX5_thingNumbered (N : Nat) (h : Hs) (t : Nat) (p1 : Int32) : Option (Option Nat × Hs) :=
  (oI 5 7 h (some t)).bind fun v1 =>
  (fX11_isWithin N h p1 0 (v1 - 1)).bind fun r2 =>
  if r2.1 = 0 then (
  fX5_thingNumbered_b24 N t r2.2 none)
  else (oR 5 0 r2.2 (some t)).bind fun o3 =>
  (lQ 23 r2.2 o3 p1).bind fun o4 =>
  fX5_thingNumbered_b24 N t r2.2 o4
set_option maxHeartbeats 4000000 in
set_option maxRecDepth 20000 in
theorem kX5_thingNumbered (l : Launch) (G : Gl) {N : Nat} {h : Hs} {t : Nat} {p1 : Int32} {r : Option Nat × Hs} (hf : fX5_thingNumbered N h t p1 = some r) : CT l G yX5_thingNumbered cX5_thingNumbered 2 (Option.some (FieldType.object "StageMachine$Thing")) rmX5_thingNumbered [.inr (some t), .inl p1] h (some (.inr r.1)) r.2 := by
  refine mk_CT (by decide) (Nat.le_of_ble_eq_true rfl) ?_
  intro p e s m args below meth c C hret hin
  unfold fX5_thingNumbered at hf
  refine r_iload_n C dX5_thingNumbered_0 rfl ?_
  refine r_iconst (v := 0) C dX5_thingNumbered_1 (by decide) ?_
  refine r_aload_n C dX5_thingNumbered_2 rfl ?_
  obtain ⟨v1, ev1, hf⟩ := bS hf
  refine r_getI C dX5_thingNumbered_3 fl_X5_47 rfl ev1 ?_
  refine r_iconst (v := 1) C dX5_thingNumbered_6 (by decide) ?_
  refine r_isub C dX5_thingNumbered_7 ?_
  obtain ⟨r2, er2, hf⟩ := bS hf
  refine r_invSN1 (As := [.inl p1, .inl 0, .inl (v1 - 1)]) (host := "StageMachine") C dX5_thingNumbered_8 mcX11_isWithin (by decide) wd_291 ⟨by decide, by decide⟩ ⟨by decide, by decide⟩ rfl (Nat.le_of_ble_eq_true rfl) (kX11_isWithin l G er2) ?_
  refine r_if_eq (tgt := 23) C dX5_thingNumbered_11 (by decide) (fun hc => ?_) (fun hc => ?_)
  · have hf := ifT hf hc
    refine r_null C dX5_thingNumbered_23 ?_
    exact V.sub (wX5_thingNumbered_b24 C hret hf) (LW_s rfl (LW_n (LW_e)))
  · have hf := ifF hf hc
    refine r_aload_n C dX5_thingNumbered_14 rfl ?_
    obtain ⟨o3, eo3, hf⟩ := bS hf
    refine r_getR C dX5_thingNumbered_15 fl_X5_11 rfl eo3 ?_
    refine r_iload_n C dX5_thingNumbered_18 rfl ?_
    obtain ⟨o4, eo4, hf⟩ := bS hf
    refine r_qald (t := 3) C dX5_thingNumbered_19 (by decide) (by decide) rfl eo4 ?_
    refine r_goto (tgt := 24) C dX5_thingNumbered_20 (by decide) ?_
    exact V.sub (wX5_thingNumbered_b24 C hret hf) (LW_s rfl (LW_n (LW_e)))

theorem dgX1_tieOf_0 : (decode cX1_tieOf 0 = .ok (.aload_n 0, 1)) ∧ (decode cX1_tieOf 1 = .ok (.getfield 21, 3)) ∧ (decode cX1_tieOf 4 = .ok (.iload_n 1, 1)) ∧ (decode cX1_tieOf 5 = .ok (.invokevirtual 138, 3)) ∧ (decode cX1_tieOf 8 = .ok (.ifnull 16, 3)) ∧ (decode cX1_tieOf 11 = .ok (.iload_n 2, 1)) ∧ (decode cX1_tieOf 12 = .ok (.iconst 0, 1)) ∧ (decode cX1_tieOf 13 = .ok (.iconst 1, 1)) ∧ (decode cX1_tieOf 14 = .ok (.invokestatic 25, 3)) ∧ (decode cX1_tieOf 17 = .ok (.ifCond .eq 7, 3)) ∧ (decode cX1_tieOf 20 = .ok (.iconst 1, 1)) ∧ (decode cX1_tieOf 21 = .ok (.goto 4, 3)) ∧ True := dkW [(0, .aload_n 0, 1), (1, .getfield 21, 3), (4, .iload_n 1, 1), (5, .invokevirtual 138, 3), (8, .ifnull 16, 3), (11, .iload_n 2, 1), (12, .iconst 0, 1), (13, .iconst 1, 1), (14, .invokestatic 25, 3), (17, .ifCond .eq 7, 3), (20, .iconst 1, 1), (21, .goto 4, 3)] 0 (by decide +kernel)
theorem dX1_tieOf_0 : decode cX1_tieOf 0 = .ok (.aload_n 0, 1) := dgX1_tieOf_0.1
theorem dX1_tieOf_1 : decode cX1_tieOf 1 = .ok (.getfield 21, 3) := dgX1_tieOf_0.2.1
theorem dX1_tieOf_4 : decode cX1_tieOf 4 = .ok (.iload_n 1, 1) := dgX1_tieOf_0.2.2.1
theorem dX1_tieOf_5 : decode cX1_tieOf 5 = .ok (.invokevirtual 138, 3) := dgX1_tieOf_0.2.2.2.1
theorem dX1_tieOf_8 : decode cX1_tieOf 8 = .ok (.ifnull 16, 3) := dgX1_tieOf_0.2.2.2.2.1
theorem dX1_tieOf_11 : decode cX1_tieOf 11 = .ok (.iload_n 2, 1) := dgX1_tieOf_0.2.2.2.2.2.1
theorem dX1_tieOf_12 : decode cX1_tieOf 12 = .ok (.iconst 0, 1) := dgX1_tieOf_0.2.2.2.2.2.2.1
theorem dX1_tieOf_13 : decode cX1_tieOf 13 = .ok (.iconst 1, 1) := dgX1_tieOf_0.2.2.2.2.2.2.2.1
theorem dX1_tieOf_14 : decode cX1_tieOf 14 = .ok (.invokestatic 25, 3) := dgX1_tieOf_0.2.2.2.2.2.2.2.2.1
theorem dX1_tieOf_17 : decode cX1_tieOf 17 = .ok (.ifCond .eq 7, 3) := dgX1_tieOf_0.2.2.2.2.2.2.2.2.2.1
theorem dX1_tieOf_20 : decode cX1_tieOf 20 = .ok (.iconst 1, 1) := dgX1_tieOf_0.2.2.2.2.2.2.2.2.2.2.1
theorem dX1_tieOf_21 : decode cX1_tieOf 21 = .ok (.goto 4, 3) := dgX1_tieOf_0.2.2.2.2.2.2.2.2.2.2.2.1
theorem dgX1_tieOf_24 : (decode cX1_tieOf 24 = .ok (.iconst 0, 1)) ∧ (decode cX1_tieOf 25 = .ok (.istore_n 3, 1)) ∧ (decode cX1_tieOf 26 = .ok (.aload_n 0, 1)) ∧ (decode cX1_tieOf 27 = .ok (.getfield 33, 3)) ∧ (decode cX1_tieOf 30 = .ok (.ifCond .eq 7, 3)) ∧ (decode cX1_tieOf 33 = .ok (.iload_n 3, 1)) ∧ (decode cX1_tieOf 34 = .ok (.ifCond .ne 5, 3)) ∧ True := dkW [(24, .iconst 0, 1), (25, .istore_n 3, 1), (26, .aload_n 0, 1), (27, .getfield 33, 3), (30, .ifCond .eq 7, 3), (33, .iload_n 3, 1), (34, .ifCond .ne 5, 3)] 24 (by decide +kernel)
theorem dX1_tieOf_24 : decode cX1_tieOf 24 = .ok (.iconst 0, 1) := dgX1_tieOf_24.1
theorem dX1_tieOf_25 : decode cX1_tieOf 25 = .ok (.istore_n 3, 1) := dgX1_tieOf_24.2.1
theorem dX1_tieOf_26 : decode cX1_tieOf 26 = .ok (.aload_n 0, 1) := dgX1_tieOf_24.2.2.1
theorem dX1_tieOf_27 : decode cX1_tieOf 27 = .ok (.getfield 33, 3) := dgX1_tieOf_24.2.2.2.1
theorem dX1_tieOf_30 : decode cX1_tieOf 30 = .ok (.ifCond .eq 7, 3) := dgX1_tieOf_24.2.2.2.2.1
theorem dX1_tieOf_33 : decode cX1_tieOf 33 = .ok (.iload_n 3, 1) := dgX1_tieOf_24.2.2.2.2.2.1
theorem dX1_tieOf_34 : decode cX1_tieOf 34 = .ok (.ifCond .ne 5, 3) := dgX1_tieOf_24.2.2.2.2.2.2.1
theorem dX1_tieOf_37 : decode cX1_tieOf 37 = .ok (.iconst (-1), 1) := by decide +kernel
theorem dgX1_tieOf_38 : (decode cX1_tieOf 38 = .ok (.ireturn, 1)) ∧ (decode cX1_tieOf 39 = .ok (.iload_n 2, 1)) ∧ (decode cX1_tieOf 40 = .ok (.ifCond .ne 12, 3)) ∧ (decode cX1_tieOf 43 = .ok (.aload_n 0, 1)) ∧ (decode cX1_tieOf 44 = .ok (.getfield 9, 3)) ∧ (decode cX1_tieOf 47 = .ok (.iload_n 1, 1)) ∧ (decode cX1_tieOf 48 = .ok (.iaload, 1)) ∧ (decode cX1_tieOf 49 = .ok (.goto 9, 3)) ∧ (decode cX1_tieOf 52 = .ok (.aload_n 0, 1)) ∧ (decode cX1_tieOf 53 = .ok (.getfield 15, 3)) ∧ (decode cX1_tieOf 56 = .ok (.iload_n 1, 1)) ∧ (decode cX1_tieOf 57 = .ok (.iaload, 1)) ∧ True := dkW [(38, .ireturn, 1), (39, .iload_n 2, 1), (40, .ifCond .ne 12, 3), (43, .aload_n 0, 1), (44, .getfield 9, 3), (47, .iload_n 1, 1), (48, .iaload, 1), (49, .goto 9, 3), (52, .aload_n 0, 1), (53, .getfield 15, 3), (56, .iload_n 1, 1), (57, .iaload, 1)] 38 (by decide +kernel)
theorem dX1_tieOf_38 : decode cX1_tieOf 38 = .ok (.ireturn, 1) := dgX1_tieOf_38.1
theorem dX1_tieOf_39 : decode cX1_tieOf 39 = .ok (.iload_n 2, 1) := dgX1_tieOf_38.2.1
theorem dX1_tieOf_40 : decode cX1_tieOf 40 = .ok (.ifCond .ne 12, 3) := dgX1_tieOf_38.2.2.1
theorem dX1_tieOf_43 : decode cX1_tieOf 43 = .ok (.aload_n 0, 1) := dgX1_tieOf_38.2.2.2.1
theorem dX1_tieOf_44 : decode cX1_tieOf 44 = .ok (.getfield 9, 3) := dgX1_tieOf_38.2.2.2.2.1
theorem dX1_tieOf_47 : decode cX1_tieOf 47 = .ok (.iload_n 1, 1) := dgX1_tieOf_38.2.2.2.2.2.1
theorem dX1_tieOf_48 : decode cX1_tieOf 48 = .ok (.iaload, 1) := dgX1_tieOf_38.2.2.2.2.2.2.1
theorem dX1_tieOf_49 : decode cX1_tieOf 49 = .ok (.goto 9, 3) := dgX1_tieOf_38.2.2.2.2.2.2.2.1
theorem dX1_tieOf_52 : decode cX1_tieOf 52 = .ok (.aload_n 0, 1) := dgX1_tieOf_38.2.2.2.2.2.2.2.2.1
theorem dX1_tieOf_53 : decode cX1_tieOf 53 = .ok (.getfield 15, 3) := dgX1_tieOf_38.2.2.2.2.2.2.2.2.2.1
theorem dX1_tieOf_56 : decode cX1_tieOf 56 = .ok (.iload_n 1, 1) := dgX1_tieOf_38.2.2.2.2.2.2.2.2.2.2.1
theorem dX1_tieOf_57 : decode cX1_tieOf 57 = .ok (.iaload, 1) := dgX1_tieOf_38.2.2.2.2.2.2.2.2.2.2.2.1
theorem dgX1_tieOf_58 : (decode cX1_tieOf 58 = .ok (.ireturn, 1)) ∧ True := dkW [(58, .ireturn, 1)] 58 (by decide +kernel)
theorem dX1_tieOf_58 : decode cX1_tieOf 58 = .ok (.ireturn, 1) := dgX1_tieOf_58.1
abbrev rmX1_tieOf : Room := { frames := 2, cells := 0, slots := 0, locals := 43 }
noncomputable def fX1_tieOf_b37 (N : Nat)  (t : Nat) (h : Hs)  : Option (Int32 × Hs) :=
  some ((-1), h)
set_option maxHeartbeats 4000000 in
set_option maxRecDepth 20000 in
theorem wX1_tieOf_b37 {p : Program} {l : Launch} {e : Env} {s : State} {m : MethodId} {args : Array Value} {below : List Frame} {meth : Method} {c : Code} {G : Gl} {N : Nat} {h : Hs} {r : Int32 × Hs}  {t : Nat}  (C : Cx p s m args meth c cX1_tieOf RX1 4 G) (hret : meth.sig.returnType = (some .int))  (hf : fX1_tieOf_b37 N  t h  = some r) : V p l e rmX1_tieOf s m args below meth c G 4 (MQ below (QcG G (some (.inl r.1)) r.2) args s rmX1_tieOf.cells rmX1_tieOf.slots (AG G)) h 0 0 37 [some (.inr (some t)), none, none, none] [] := by
  unfold fX1_tieOf_b37 at hf
  refine r_iconst (v := -1) C dX1_tieOf_37 (by decide) ?_
  exact r_iretF C dX1_tieOf_38 hret hf (by decide) (by decide)
noncomputable def fX1_tieOf_b58 (N : Nat)  (t : Nat) (h : Hs) (u0 : Int32) : Option (Int32 × Hs) :=
  some (u0, h)
set_option maxHeartbeats 4000000 in
set_option maxRecDepth 20000 in
theorem wX1_tieOf_b58 {p : Program} {l : Launch} {e : Env} {s : State} {m : MethodId} {args : Array Value} {below : List Frame} {meth : Method} {c : Code} {G : Gl} {N : Nat} {h : Hs} {r : Int32 × Hs}  {t : Nat} {u0 : Int32} (C : Cx p s m args meth c cX1_tieOf RX1 4 G) (hret : meth.sig.returnType = (some .int))  (hf : fX1_tieOf_b58 N  t h u0 = some r) : V p l e rmX1_tieOf s m args below meth c G 4 (MQ below (QcG G (some (.inl r.1)) r.2) args s rmX1_tieOf.cells rmX1_tieOf.slots (AG G)) h 0 0 58 [some (.inr (some t)), none, none, none] [.inl u0] := by
  unfold fX1_tieOf_b58 at hf
  exact r_iretF C dX1_tieOf_58 hret hf (by decide) (by decide)
noncomputable def fX1_tieOf_b25 (N : Nat)  (t : Nat) (h : Hs) (x1 : Int32) (x2 : Int32) (u0 : Int32) : Option (Int32 × Hs) :=
  (oI 1 4 h (some t)).bind fun v1 =>
  if v1 = 0 then (
  fX1_tieOf_b37 N t h)
  else if u0 = 0 then (
  fX1_tieOf_b37 N t h)
  else if x2 = 0 then (
  (oR 1 1 h (some t)).bind fun o4 =>
  (lA 20 h o4 x1).bind fun v5 =>
  fX1_tieOf_b58 N t h v5)
  else (oR 1 2 h (some t)).bind fun o2 =>
  (lA 20 h o2 x1).bind fun v3 =>
  fX1_tieOf_b58 N t h v3
set_option maxHeartbeats 4000000 in
set_option maxRecDepth 20000 in
theorem wX1_tieOf_b25 {p : Program} {l : Launch} {e : Env} {s : State} {m : MethodId} {args : Array Value} {below : List Frame} {meth : Method} {c : Code} {G : Gl} {N : Nat} {h : Hs} {r : Int32 × Hs}  {t : Nat} {x1 : Int32} {x2 : Int32} {u0 : Int32} (C : Cx p s m args meth c cX1_tieOf RX1 4 G) (hret : meth.sig.returnType = (some .int))  (hf : fX1_tieOf_b25 N  t h x1 x2 u0 = some r) : V p l e rmX1_tieOf s m args below meth c G 4 (MQ below (QcG G (some (.inl r.1)) r.2) args s rmX1_tieOf.cells rmX1_tieOf.slots (AG G)) h 0 0 25 [some (.inr (some t)), some (.inl x1), some (.inl x2), none] [.inl u0] := by
  unfold fX1_tieOf_b25 at hf
  refine r_istore_n C dX1_tieOf_25 (by decide) ?_
  refine r_aload_n C dX1_tieOf_26 rfl ?_
  obtain ⟨v1, ev1, hf⟩ := bS hf
  refine r_getI C dX1_tieOf_27 fl_X1_33 rfl ev1 ?_
  refine r_if_eq (tgt := 37) C dX1_tieOf_30 (by decide) (fun hc => ?_) (fun hc => ?_)
  · have hf := ifT hf hc
    exact V.sub (wX1_tieOf_b37 C hret hf) (LW_s rfl (LW_n (LW_n (LW_n (LW_e)))))
  · have hf := ifF hf hc
    refine r_iload_n C dX1_tieOf_33 rfl ?_
    refine r_if_ne (tgt := 39) C dX1_tieOf_34 (by decide) (fun hc => ?_) (fun hc => ?_)
    · have hf := ifF hf hc
      refine r_iload_n C dX1_tieOf_39 rfl ?_
      refine r_if_ne (tgt := 52) C dX1_tieOf_40 (by decide) (fun hc => ?_) (fun hc => ?_)
      · have hf := ifF hf hc
        refine r_aload_n C dX1_tieOf_52 rfl ?_
        obtain ⟨o2, eo2, hf⟩ := bS hf
        refine r_getR C dX1_tieOf_53 fl_X1_15 rfl eo2 ?_
        refine r_iload_n C dX1_tieOf_56 rfl ?_
        obtain ⟨v3, ev3, hf⟩ := bS hf
        refine r_iald C dX1_tieOf_57 ev3 ?_
        exact V.sub (wX1_tieOf_b58 C hret hf) (LW_s rfl (LW_n (LW_n (LW_n (LW_e)))))
      · have hf := ifT hf hc
        refine r_aload_n C dX1_tieOf_43 rfl ?_
        obtain ⟨o4, eo4, hf⟩ := bS hf
        refine r_getR C dX1_tieOf_44 fl_X1_9 rfl eo4 ?_
        refine r_iload_n C dX1_tieOf_47 rfl ?_
        obtain ⟨v5, ev5, hf⟩ := bS hf
        refine r_iald C dX1_tieOf_48 ev5 ?_
        refine r_goto (tgt := 58) C dX1_tieOf_49 (by decide) ?_
        exact V.sub (wX1_tieOf_b58 C hret hf) (LW_s rfl (LW_n (LW_n (LW_n (LW_e)))))
    · have hf := ifT hf hc
      exact V.sub (wX1_tieOf_b37 C hret hf) (LW_s rfl (LW_n (LW_n (LW_n (LW_e)))))
noncomputable def fX1_tieOf_b24 (N : Nat)  (t : Nat) (h : Hs) (x1 : Int32) (x2 : Int32) : Option (Int32 × Hs) :=
  fX1_tieOf_b25 N t h x1 x2 0
set_option maxHeartbeats 4000000 in
set_option maxRecDepth 20000 in
theorem wX1_tieOf_b24 {p : Program} {l : Launch} {e : Env} {s : State} {m : MethodId} {args : Array Value} {below : List Frame} {meth : Method} {c : Code} {G : Gl} {N : Nat} {h : Hs} {r : Int32 × Hs}  {t : Nat} {x1 : Int32} {x2 : Int32} (C : Cx p s m args meth c cX1_tieOf RX1 4 G) (hret : meth.sig.returnType = (some .int))  (hf : fX1_tieOf_b24 N  t h x1 x2 = some r) : V p l e rmX1_tieOf s m args below meth c G 4 (MQ below (QcG G (some (.inl r.1)) r.2) args s rmX1_tieOf.cells rmX1_tieOf.slots (AG G)) h 0 0 24 [some (.inr (some t)), some (.inl x1), some (.inl x2), none] [] := by
  unfold fX1_tieOf_b24 at hf
  refine r_iconst (v := 0) C dX1_tieOf_24 (by decide) ?_
  exact V.sub (wX1_tieOf_b25 C hret hf) (LW_s rfl (LW_s rfl (LW_s rfl (LW_n (LW_e)))))
noncomputable def fX1_tieOf (N : Nat) (h : Hs) (t : Nat) (p1 : Int32) (p2 : Int32) : Option (Int32 × Hs) :=
  (oR 1 0 h (some t)).bind fun o1 =>
  (rc 5 h o1).bind fun a3 =>
  (fX5_thingNumbered N h a3 p1).bind fun r2 =>
  if r2.1 = none then (
  fX1_tieOf_b24 N t r2.2 p1 p2)
  else (fX11_isWithin N r2.2 p2 0 1).bind fun r4 =>
  if r4.1 = 0 then (
  fX1_tieOf_b24 N t r4.2 p1 p2)
  else fX1_tieOf_b25 N t r4.2 p1 p2 1
set_option maxHeartbeats 4000000 in
set_option maxRecDepth 20000 in
theorem kX1_tieOf (l : Launch) (G : Gl) {N : Nat} {h : Hs} {t : Nat} {p1 : Int32} {p2 : Int32} {r : Int32 × Hs} (hf : fX1_tieOf N h t p1 p2 = some r) : CT l G yX1_tieOf cX1_tieOf 4 (some .int) rmX1_tieOf [.inr (some t), .inl p1, .inl p2] h (some (.inl r.1)) r.2 := by
  refine mk_CT (by decide) (Nat.le_of_ble_eq_true rfl) ?_
  intro p e s m args below meth c C hret hin
  unfold fX1_tieOf at hf
  refine r_aload_n C dX1_tieOf_0 rfl ?_
  obtain ⟨o1, eo1, hf⟩ := bS hf
  refine r_getR C dX1_tieOf_1 fl_X1_21 rfl eo1 ?_
  refine r_iload_n C dX1_tieOf_4 rfl ?_
  obtain ⟨a3, ea3, hf⟩ := bS hf
  obtain ⟨r2, er2, hf⟩ := bS hf
  refine r_invV1 (As := [.inl p1]) (ci := 5) C dX1_tieOf_5 mcX5_thingNumbered wd_737 wd_373 wd_374 rfl rfl (by decide) ⟨by decide, by decide⟩ ⟨by decide, by decide⟩ rfl (Nat.le_of_ble_eq_true rfl) ea3 (kX5_thingNumbered l G er2) ?_
  refine r_ifnull (tgt := 24) C dX1_tieOf_8 (by decide) (fun hc => ?_) (fun hc => ?_)
  · have hf := ifT hf hc
    exact V.sub (wX1_tieOf_b24 C hret hf) (LW_s rfl (LW_s rfl (LW_s rfl (LW_n (LW_e)))))
  · have hf := ifF hf hc
    refine r_iload_n C dX1_tieOf_11 rfl ?_
    refine r_iconst (v := 0) C dX1_tieOf_12 (by decide) ?_
    refine r_iconst (v := 1) C dX1_tieOf_13 (by decide) ?_
    obtain ⟨r4, er4, hf⟩ := bS hf
    refine r_invSN1 (As := [.inl p2, .inl 0, .inl 1]) (host := "StageMachine") C dX1_tieOf_14 mcX11_isWithin (by decide) wd_291 ⟨by decide, by decide⟩ ⟨by decide, by decide⟩ rfl (Nat.le_of_ble_eq_true rfl) (kX11_isWithin l G er4) ?_
    refine r_if_eq (tgt := 24) C dX1_tieOf_17 (by decide) (fun hc => ?_) (fun hc => ?_)
    · have hf := ifT hf hc
      exact V.sub (wX1_tieOf_b24 C hret hf) (LW_s rfl (LW_s rfl (LW_s rfl (LW_n (LW_e)))))
    · have hf := ifF hf hc
      refine r_iconst (v := 1) C dX1_tieOf_20 (by decide) ?_
      refine r_goto (tgt := 25) C dX1_tieOf_21 (by decide) ?_
      exact V.sub (wX1_tieOf_b25 C hret hf) (LW_s rfl (LW_s rfl (LW_s rfl (LW_n (LW_e)))))

theorem dgX1_works_0 : (decode cX1_works 0 = .ok (.aload_n 0, 1)) ∧ (decode cX1_works 1 = .ok (.getfield 112, 3)) ∧ (decode cX1_works 4 = .ok (.aload_n 0, 1)) ∧ (decode cX1_works 5 = .ok (.getfield 115, 3)) ∧ (decode cX1_works 8 = .ok (.iadd, 1)) ∧ (decode cX1_works 9 = .ok (.aload_n 0, 1)) ∧ (decode cX1_works 10 = .ok (.getfield 118, 3)) ∧ (decode cX1_works 13 = .ok (.iadd, 1)) ∧ (decode cX1_works 14 = .ok (.ireturn, 1)) ∧ True := dkW [(0, .aload_n 0, 1), (1, .getfield 112, 3), (4, .aload_n 0, 1), (5, .getfield 115, 3), (8, .iadd, 1), (9, .aload_n 0, 1), (10, .getfield 118, 3), (13, .iadd, 1), (14, .ireturn, 1)] 0 (by decide +kernel)
theorem dX1_works_0 : decode cX1_works 0 = .ok (.aload_n 0, 1) := dgX1_works_0.1
theorem dX1_works_1 : decode cX1_works 1 = .ok (.getfield 112, 3) := dgX1_works_0.2.1
theorem dX1_works_4 : decode cX1_works 4 = .ok (.aload_n 0, 1) := dgX1_works_0.2.2.1
theorem dX1_works_5 : decode cX1_works 5 = .ok (.getfield 115, 3) := dgX1_works_0.2.2.2.1
theorem dX1_works_8 : decode cX1_works 8 = .ok (.iadd, 1) := dgX1_works_0.2.2.2.2.1
theorem dX1_works_9 : decode cX1_works 9 = .ok (.aload_n 0, 1) := dgX1_works_0.2.2.2.2.2.1
theorem dX1_works_10 : decode cX1_works 10 = .ok (.getfield 118, 3) := dgX1_works_0.2.2.2.2.2.2.1
theorem dX1_works_13 : decode cX1_works 13 = .ok (.iadd, 1) := dgX1_works_0.2.2.2.2.2.2.2.1
theorem dX1_works_14 : decode cX1_works 14 = .ok (.ireturn, 1) := dgX1_works_0.2.2.2.2.2.2.2.2.1
abbrev rmX1_works : Room := { frames := 0, cells := 0, slots := 0, locals := 0 }
noncomputable def fX1_works (N : Nat) (h : Hs) (t : Nat)  : Option (Int32 × Hs) :=
  (oI 1 6 h (some t)).bind fun v1 =>
  (oI 1 7 h (some t)).bind fun v2 =>
  (oI 1 8 h (some t)).bind fun v3 =>
  some ((v1 + v2) + v3, h)
set_option maxHeartbeats 4000000 in
set_option maxRecDepth 20000 in
theorem kX1_works (l : Launch) (G : Gl) {N : Nat} {h : Hs} {t : Nat}  {r : Int32 × Hs} (hf : fX1_works N h t  = some r) : CT l G yX1_works cX1_works 1 (some .int) rmX1_works [.inr (some t)] h (some (.inl r.1)) r.2 := by
  refine mk_CT (by decide) (Nat.le_of_ble_eq_true rfl) ?_
  intro p e s m args below meth c C hret hin
  unfold fX1_works at hf
  refine r_aload_n C dX1_works_0 rfl ?_
  obtain ⟨v1, ev1, hf⟩ := bS hf
  refine r_getI C dX1_works_1 fl_X1_112 rfl ev1 ?_
  refine r_aload_n C dX1_works_4 rfl ?_
  obtain ⟨v2, ev2, hf⟩ := bS hf
  refine r_getI C dX1_works_5 fl_X1_115 rfl ev2 ?_
  refine r_iadd C dX1_works_8 ?_
  refine r_aload_n C dX1_works_9 rfl ?_
  obtain ⟨v3, ev3, hf⟩ := bS hf
  refine r_getI C dX1_works_10 fl_X1_118 rfl ev3 ?_
  refine r_iadd C dX1_works_13 ?_
  exact r_iretF C dX1_works_14 hret hf (by decide) (by decide)

theorem dgX1_workFor_0 : (decode cX1_workFor 0 = .ok (.aload_n 0, 1)) ∧ (decode cX1_workFor 1 = .ok (.getfield 33, 3)) ∧ (decode cX1_workFor 4 = .ok (.ifCond .eq 12, 3)) ∧ (decode cX1_workFor 7 = .ok (.iload_n 1, 1)) ∧ (decode cX1_workFor 8 = .ok (.iconst 0, 1)) ∧ (decode cX1_workFor 9 = .ok (.iconst 1, 1)) ∧ (decode cX1_workFor 10 = .ok (.invokestatic 25, 3)) ∧ (decode cX1_workFor 13 = .ok (.ifCond .ne 5, 3)) ∧ True := dkW [(0, .aload_n 0, 1), (1, .getfield 33, 3), (4, .ifCond .eq 12, 3), (7, .iload_n 1, 1), (8, .iconst 0, 1), (9, .iconst 1, 1), (10, .invokestatic 25, 3), (13, .ifCond .ne 5, 3)] 0 (by decide +kernel)
theorem dX1_workFor_0 : decode cX1_workFor 0 = .ok (.aload_n 0, 1) := dgX1_workFor_0.1
theorem dX1_workFor_1 : decode cX1_workFor 1 = .ok (.getfield 33, 3) := dgX1_workFor_0.2.1
theorem dX1_workFor_4 : decode cX1_workFor 4 = .ok (.ifCond .eq 12, 3) := dgX1_workFor_0.2.2.1
theorem dX1_workFor_7 : decode cX1_workFor 7 = .ok (.iload_n 1, 1) := dgX1_workFor_0.2.2.2.1
theorem dX1_workFor_8 : decode cX1_workFor 8 = .ok (.iconst 0, 1) := dgX1_workFor_0.2.2.2.2.1
theorem dX1_workFor_9 : decode cX1_workFor 9 = .ok (.iconst 1, 1) := dgX1_workFor_0.2.2.2.2.2.1
theorem dX1_workFor_10 : decode cX1_workFor 10 = .ok (.invokestatic 25, 3) := dgX1_workFor_0.2.2.2.2.2.2.1
theorem dX1_workFor_13 : decode cX1_workFor 13 = .ok (.ifCond .ne 5, 3) := dgX1_workFor_0.2.2.2.2.2.2.2.1
theorem dX1_workFor_16 : decode cX1_workFor 16 = .ok (.iconst (-1), 1) := by decide +kernel
theorem dgX1_workFor_17 : (decode cX1_workFor 17 = .ok (.ireturn, 1)) ∧ (decode cX1_workFor 18 = .ok (.aload_n 0, 1)) ∧ (decode cX1_workFor 19 = .ok (.getfield 37, 3)) ∧ (decode cX1_workFor 22 = .ok (.ifCond .ne 6, 3)) ∧ (decode cX1_workFor 25 = .ok (.bipush (-2), 2)) ∧ (decode cX1_workFor 27 = .ok (.ireturn, 1)) ∧ (decode cX1_workFor 28 = .ok (.iload_n 1, 1)) ∧ (decode cX1_workFor 29 = .ok (.ifCond .ne 26, 3)) ∧ (decode cX1_workFor 32 = .ok (.iconst 2, 1)) ∧ (decode cX1_workFor 33 = .ok (.aload_n 0, 1)) ∧ (decode cX1_workFor 34 = .ok (.getfield 112, 3)) ∧ (decode cX1_workFor 37 = .ok (.imul, 1)) ∧ True := dkW [(17, .ireturn, 1), (18, .aload_n 0, 1), (19, .getfield 37, 3), (22, .ifCond .ne 6, 3), (25, .bipush (-2), 2), (27, .ireturn, 1), (28, .iload_n 1, 1), (29, .ifCond .ne 26, 3), (32, .iconst 2, 1), (33, .aload_n 0, 1), (34, .getfield 112, 3), (37, .imul, 1)] 17 (by decide +kernel)
theorem dX1_workFor_17 : decode cX1_workFor 17 = .ok (.ireturn, 1) := dgX1_workFor_17.1
theorem dX1_workFor_18 : decode cX1_workFor 18 = .ok (.aload_n 0, 1) := dgX1_workFor_17.2.1
theorem dX1_workFor_19 : decode cX1_workFor 19 = .ok (.getfield 37, 3) := dgX1_workFor_17.2.2.1
theorem dX1_workFor_22 : decode cX1_workFor 22 = .ok (.ifCond .ne 6, 3) := dgX1_workFor_17.2.2.2.1
theorem dX1_workFor_25 : decode cX1_workFor 25 = .ok (.bipush (-2), 2) := dgX1_workFor_17.2.2.2.2.1
theorem dX1_workFor_27 : decode cX1_workFor 27 = .ok (.ireturn, 1) := dgX1_workFor_17.2.2.2.2.2.1
theorem dX1_workFor_28 : decode cX1_workFor 28 = .ok (.iload_n 1, 1) := dgX1_workFor_17.2.2.2.2.2.2.1
theorem dX1_workFor_29 : decode cX1_workFor 29 = .ok (.ifCond .ne 26, 3) := dgX1_workFor_17.2.2.2.2.2.2.2.1
theorem dX1_workFor_32 : decode cX1_workFor 32 = .ok (.iconst 2, 1) := dgX1_workFor_17.2.2.2.2.2.2.2.2.1
theorem dX1_workFor_33 : decode cX1_workFor 33 = .ok (.aload_n 0, 1) := dgX1_workFor_17.2.2.2.2.2.2.2.2.2.1
theorem dX1_workFor_34 : decode cX1_workFor 34 = .ok (.getfield 112, 3) := dgX1_workFor_17.2.2.2.2.2.2.2.2.2.2.1
theorem dX1_workFor_37 : decode cX1_workFor 37 = .ok (.imul, 1) := dgX1_workFor_17.2.2.2.2.2.2.2.2.2.2.2.1
theorem dgX1_workFor_38 : (decode cX1_workFor 38 = .ok (.iconst 3, 1)) ∧ (decode cX1_workFor 39 = .ok (.aload_n 0, 1)) ∧ (decode cX1_workFor 40 = .ok (.getfield 115, 3)) ∧ (decode cX1_workFor 43 = .ok (.imul, 1)) ∧ (decode cX1_workFor 44 = .ok (.iadd, 1)) ∧ (decode cX1_workFor 45 = .ok (.iconst 5, 1)) ∧ (decode cX1_workFor 46 = .ok (.aload_n 0, 1)) ∧ (decode cX1_workFor 47 = .ok (.getfield 118, 3)) ∧ (decode cX1_workFor 50 = .ok (.imul, 1)) ∧ (decode cX1_workFor 51 = .ok (.iadd, 1)) ∧ (decode cX1_workFor 52 = .ok (.goto 7, 3)) ∧ (decode cX1_workFor 55 = .ok (.aload_n 0, 1)) ∧ True := dkW [(38, .iconst 3, 1), (39, .aload_n 0, 1), (40, .getfield 115, 3), (43, .imul, 1), (44, .iadd, 1), (45, .iconst 5, 1), (46, .aload_n 0, 1), (47, .getfield 118, 3), (50, .imul, 1), (51, .iadd, 1), (52, .goto 7, 3), (55, .aload_n 0, 1)] 38 (by decide +kernel)
theorem dX1_workFor_38 : decode cX1_workFor 38 = .ok (.iconst 3, 1) := dgX1_workFor_38.1
theorem dX1_workFor_39 : decode cX1_workFor 39 = .ok (.aload_n 0, 1) := dgX1_workFor_38.2.1
theorem dX1_workFor_40 : decode cX1_workFor 40 = .ok (.getfield 115, 3) := dgX1_workFor_38.2.2.1
theorem dX1_workFor_43 : decode cX1_workFor 43 = .ok (.imul, 1) := dgX1_workFor_38.2.2.2.1
theorem dX1_workFor_44 : decode cX1_workFor 44 = .ok (.iadd, 1) := dgX1_workFor_38.2.2.2.2.1
theorem dX1_workFor_45 : decode cX1_workFor 45 = .ok (.iconst 5, 1) := dgX1_workFor_38.2.2.2.2.2.1
theorem dX1_workFor_46 : decode cX1_workFor 46 = .ok (.aload_n 0, 1) := dgX1_workFor_38.2.2.2.2.2.2.1
theorem dX1_workFor_47 : decode cX1_workFor 47 = .ok (.getfield 118, 3) := dgX1_workFor_38.2.2.2.2.2.2.2.1
theorem dX1_workFor_50 : decode cX1_workFor 50 = .ok (.imul, 1) := dgX1_workFor_38.2.2.2.2.2.2.2.2.1
theorem dX1_workFor_51 : decode cX1_workFor 51 = .ok (.iadd, 1) := dgX1_workFor_38.2.2.2.2.2.2.2.2.2.1
theorem dX1_workFor_52 : decode cX1_workFor 52 = .ok (.goto 7, 3) := dgX1_workFor_38.2.2.2.2.2.2.2.2.2.2.1
theorem dX1_workFor_55 : decode cX1_workFor 55 = .ok (.aload_n 0, 1) := dgX1_workFor_38.2.2.2.2.2.2.2.2.2.2.2.1
theorem dgX1_workFor_56 : (decode cX1_workFor 56 = .ok (.invokevirtual 142, 3)) ∧ (decode cX1_workFor 59 = .ok (.ireturn, 1)) ∧ True := dkW [(56, .invokevirtual 142, 3), (59, .ireturn, 1)] 56 (by decide +kernel)
theorem dX1_workFor_56 : decode cX1_workFor 56 = .ok (.invokevirtual 142, 3) := dgX1_workFor_56.1
theorem dX1_workFor_59 : decode cX1_workFor 59 = .ok (.ireturn, 1) := dgX1_workFor_56.2.1
abbrev rmX1_workFor : Room := { frames := 1, cells := 0, slots := 0, locals := 22 }
noncomputable def fX1_workFor_b16 (N : Nat)  (t : Nat) (h : Hs)  : Option (Int32 × Hs) :=
  some ((-1), h)
set_option maxHeartbeats 4000000 in
set_option maxRecDepth 20000 in
theorem wX1_workFor_b16 {p : Program} {l : Launch} {e : Env} {s : State} {m : MethodId} {args : Array Value} {below : List Frame} {meth : Method} {c : Code} {G : Gl} {N : Nat} {h : Hs} {r : Int32 × Hs}  {t : Nat}  (C : Cx p s m args meth c cX1_workFor RX1 2 G) (hret : meth.sig.returnType = (some .int))  (hf : fX1_workFor_b16 N  t h  = some r) : V p l e rmX1_workFor s m args below meth c G 2 (MQ below (QcG G (some (.inl r.1)) r.2) args s rmX1_workFor.cells rmX1_workFor.slots (AG G)) h 0 0 16 [some (.inr (some t)), none] [] := by
  unfold fX1_workFor_b16 at hf
  refine r_iconst (v := -1) C dX1_workFor_16 (by decide) ?_
  exact r_iretF C dX1_workFor_17 hret hf (by decide) (by decide)
noncomputable def fX1_workFor_b59 (N : Nat)  (t : Nat) (h : Hs) (u0 : Int32) : Option (Int32 × Hs) :=
  some (u0, h)
set_option maxHeartbeats 4000000 in
set_option maxRecDepth 20000 in
theorem wX1_workFor_b59 {p : Program} {l : Launch} {e : Env} {s : State} {m : MethodId} {args : Array Value} {below : List Frame} {meth : Method} {c : Code} {G : Gl} {N : Nat} {h : Hs} {r : Int32 × Hs}  {t : Nat} {u0 : Int32} (C : Cx p s m args meth c cX1_workFor RX1 2 G) (hret : meth.sig.returnType = (some .int))  (hf : fX1_workFor_b59 N  t h u0 = some r) : V p l e rmX1_workFor s m args below meth c G 2 (MQ below (QcG G (some (.inl r.1)) r.2) args s rmX1_workFor.cells rmX1_workFor.slots (AG G)) h 0 0 59 [some (.inr (some t)), none] [.inl u0] := by
  unfold fX1_workFor_b59 at hf
  exact r_iretF C dX1_workFor_59 hret hf (by decide) (by decide)
noncomputable def fX1_workFor (N : Nat) (h : Hs) (t : Nat) (p1 : Int32) : Option (Int32 × Hs) :=
  (oI 1 4 h (some t)).bind fun v1 =>
  if v1 = 0 then (
  fX1_workFor_b16 N t h)
  else (fX11_isWithin N h p1 0 1).bind fun r2 =>
  if r2.1 = 0 then (
  fX1_workFor_b16 N t r2.2)
  else (oI 1 5 r2.2 (some t)).bind fun v3 =>
  if v3 = 0 then (
  some ((-2), r2.2))
  else if p1 = 0 then (
  (oI 1 6 r2.2 (some t)).bind fun v6 =>
  (oI 1 7 r2.2 (some t)).bind fun v7 =>
  (oI 1 8 r2.2 (some t)).bind fun v8 =>
  fX1_workFor_b59 N t r2.2 (((2 * v6) + (3 * v7)) + (5 * v8)))
  else (rc 1 r2.2 (some t)).bind fun a5 =>
  (fX1_works N r2.2 a5 ).bind fun r4 =>
  fX1_workFor_b59 N t r4.2 r4.1
set_option maxHeartbeats 4000000 in
set_option maxRecDepth 20000 in
theorem kX1_workFor (l : Launch) (G : Gl) {N : Nat} {h : Hs} {t : Nat} {p1 : Int32} {r : Int32 × Hs} (hf : fX1_workFor N h t p1 = some r) : CT l G yX1_workFor cX1_workFor 2 (some .int) rmX1_workFor [.inr (some t), .inl p1] h (some (.inl r.1)) r.2 := by
  refine mk_CT (by decide) (Nat.le_of_ble_eq_true rfl) ?_
  intro p e s m args below meth c C hret hin
  unfold fX1_workFor at hf
  refine r_aload_n C dX1_workFor_0 rfl ?_
  obtain ⟨v1, ev1, hf⟩ := bS hf
  refine r_getI C dX1_workFor_1 fl_X1_33 rfl ev1 ?_
  refine r_if_eq (tgt := 16) C dX1_workFor_4 (by decide) (fun hc => ?_) (fun hc => ?_)
  · have hf := ifT hf hc
    exact V.sub (wX1_workFor_b16 C hret hf) (LW_s rfl (LW_n (LW_e)))
  · have hf := ifF hf hc
    refine r_iload_n C dX1_workFor_7 rfl ?_
    refine r_iconst (v := 0) C dX1_workFor_8 (by decide) ?_
    refine r_iconst (v := 1) C dX1_workFor_9 (by decide) ?_
    obtain ⟨r2, er2, hf⟩ := bS hf
    refine r_invSN1 (As := [.inl p1, .inl 0, .inl 1]) (host := "StageMachine") C dX1_workFor_10 mcX11_isWithin (by decide) wd_291 ⟨by decide, by decide⟩ ⟨by decide, by decide⟩ rfl (Nat.le_of_ble_eq_true rfl) (kX11_isWithin l G er2) ?_
    refine r_if_ne (tgt := 18) C dX1_workFor_13 (by decide) (fun hc => ?_) (fun hc => ?_)
    · have hf := ifF hf hc
      refine r_aload_n C dX1_workFor_18 rfl ?_
      obtain ⟨v3, ev3, hf⟩ := bS hf
      refine r_getI C dX1_workFor_19 fl_X1_37 rfl ev3 ?_
      refine r_if_ne (tgt := 28) C dX1_workFor_22 (by decide) (fun hc => ?_) (fun hc => ?_)
      · have hf := ifF hf hc
        refine r_iload_n C dX1_workFor_28 rfl ?_
        refine r_if_ne (tgt := 55) C dX1_workFor_29 (by decide) (fun hc => ?_) (fun hc => ?_)
        · have hf := ifF hf hc
          refine r_aload_n C dX1_workFor_55 rfl ?_
          obtain ⟨a5, ea5, hf⟩ := bS hf
          obtain ⟨r4, er4, hf⟩ := bS hf
          refine r_invV1 (As := []) (ci := 1) C dX1_workFor_56 mcX1_works wd_746 wd_748 wp_12 rfl rfl (by decide) ⟨by decide, by decide⟩ ⟨by decide, by decide⟩ rfl (Nat.le_of_ble_eq_true rfl) ea5 (kX1_works l G er4) ?_
          exact V.sub (wX1_workFor_b59 C hret hf) (LW_s rfl (LW_n (LW_e)))
        · have hf := ifT hf hc
          refine r_iconst (v := 2) C dX1_workFor_32 (by decide) ?_
          refine r_aload_n C dX1_workFor_33 rfl ?_
          obtain ⟨v6, ev6, hf⟩ := bS hf
          refine r_getI C dX1_workFor_34 fl_X1_112 rfl ev6 ?_
          refine r_imul C dX1_workFor_37 ?_
          refine r_iconst (v := 3) C dX1_workFor_38 (by decide) ?_
          refine r_aload_n C dX1_workFor_39 rfl ?_
          obtain ⟨v7, ev7, hf⟩ := bS hf
          refine r_getI C dX1_workFor_40 fl_X1_115 rfl ev7 ?_
          refine r_imul C dX1_workFor_43 ?_
          refine r_iadd C dX1_workFor_44 ?_
          refine r_iconst (v := 5) C dX1_workFor_45 (by decide) ?_
          refine r_aload_n C dX1_workFor_46 rfl ?_
          obtain ⟨v8, ev8, hf⟩ := bS hf
          refine r_getI C dX1_workFor_47 fl_X1_118 rfl ev8 ?_
          refine r_imul C dX1_workFor_50 ?_
          refine r_iadd C dX1_workFor_51 ?_
          refine r_goto (tgt := 59) C dX1_workFor_52 (by decide) ?_
          exact V.sub (wX1_workFor_b59 C hret hf) (LW_s rfl (LW_n (LW_e)))
      · have hf := ifT hf hc
        refine r_bipush (v := -2) C dX1_workFor_25 (by decide) ?_
        exact r_iretF C dX1_workFor_27 hret hf (by decide) (by decide)
    · have hf := ifT hf hc
      exact V.sub (wX1_workFor_b16 C hret hf) (LW_s rfl (LW_n (LW_e)))

theorem dgX1_longestWork_0 : (decode cX1_longestWork 0 = .ok (.aload_n 0, 1)) ∧ (decode cX1_longestWork 1 = .ok (.getfield 118, 3)) ∧ (decode cX1_longestWork 4 = .ok (.ifCond .le 5, 3)) ∧ (decode cX1_longestWork 7 = .ok (.iconst 5, 1)) ∧ (decode cX1_longestWork 8 = .ok (.ireturn, 1)) ∧ (decode cX1_longestWork 9 = .ok (.aload_n 0, 1)) ∧ (decode cX1_longestWork 10 = .ok (.getfield 115, 3)) ∧ (decode cX1_longestWork 13 = .ok (.ifCond .le 5, 3)) ∧ (decode cX1_longestWork 16 = .ok (.iconst 3, 1)) ∧ (decode cX1_longestWork 17 = .ok (.ireturn, 1)) ∧ (decode cX1_longestWork 18 = .ok (.aload_n 0, 1)) ∧ (decode cX1_longestWork 19 = .ok (.getfield 112, 3)) ∧ True := dkW [(0, .aload_n 0, 1), (1, .getfield 118, 3), (4, .ifCond .le 5, 3), (7, .iconst 5, 1), (8, .ireturn, 1), (9, .aload_n 0, 1), (10, .getfield 115, 3), (13, .ifCond .le 5, 3), (16, .iconst 3, 1), (17, .ireturn, 1), (18, .aload_n 0, 1), (19, .getfield 112, 3)] 0 (by decide +kernel)
theorem dX1_longestWork_0 : decode cX1_longestWork 0 = .ok (.aload_n 0, 1) := dgX1_longestWork_0.1
theorem dX1_longestWork_1 : decode cX1_longestWork 1 = .ok (.getfield 118, 3) := dgX1_longestWork_0.2.1
theorem dX1_longestWork_4 : decode cX1_longestWork 4 = .ok (.ifCond .le 5, 3) := dgX1_longestWork_0.2.2.1
theorem dX1_longestWork_7 : decode cX1_longestWork 7 = .ok (.iconst 5, 1) := dgX1_longestWork_0.2.2.2.1
theorem dX1_longestWork_8 : decode cX1_longestWork 8 = .ok (.ireturn, 1) := dgX1_longestWork_0.2.2.2.2.1
theorem dX1_longestWork_9 : decode cX1_longestWork 9 = .ok (.aload_n 0, 1) := dgX1_longestWork_0.2.2.2.2.2.1
theorem dX1_longestWork_10 : decode cX1_longestWork 10 = .ok (.getfield 115, 3) := dgX1_longestWork_0.2.2.2.2.2.2.1
theorem dX1_longestWork_13 : decode cX1_longestWork 13 = .ok (.ifCond .le 5, 3) := dgX1_longestWork_0.2.2.2.2.2.2.2.1
theorem dX1_longestWork_16 : decode cX1_longestWork 16 = .ok (.iconst 3, 1) := dgX1_longestWork_0.2.2.2.2.2.2.2.2.1
theorem dX1_longestWork_17 : decode cX1_longestWork 17 = .ok (.ireturn, 1) := dgX1_longestWork_0.2.2.2.2.2.2.2.2.2.1
theorem dX1_longestWork_18 : decode cX1_longestWork 18 = .ok (.aload_n 0, 1) := dgX1_longestWork_0.2.2.2.2.2.2.2.2.2.2.1
theorem dX1_longestWork_19 : decode cX1_longestWork 19 = .ok (.getfield 112, 3) := dgX1_longestWork_0.2.2.2.2.2.2.2.2.2.2.2.1
theorem dgX1_longestWork_22 : (decode cX1_longestWork 22 = .ok (.ifCond .le 7, 3)) ∧ (decode cX1_longestWork 25 = .ok (.iconst 2, 1)) ∧ (decode cX1_longestWork 26 = .ok (.goto 4, 3)) ∧ (decode cX1_longestWork 29 = .ok (.iconst 0, 1)) ∧ (decode cX1_longestWork 30 = .ok (.ireturn, 1)) ∧ True := dkW [(22, .ifCond .le 7, 3), (25, .iconst 2, 1), (26, .goto 4, 3), (29, .iconst 0, 1), (30, .ireturn, 1)] 22 (by decide +kernel)
theorem dX1_longestWork_22 : decode cX1_longestWork 22 = .ok (.ifCond .le 7, 3) := dgX1_longestWork_22.1
theorem dX1_longestWork_25 : decode cX1_longestWork 25 = .ok (.iconst 2, 1) := dgX1_longestWork_22.2.1
theorem dX1_longestWork_26 : decode cX1_longestWork 26 = .ok (.goto 4, 3) := dgX1_longestWork_22.2.2.1
theorem dX1_longestWork_29 : decode cX1_longestWork 29 = .ok (.iconst 0, 1) := dgX1_longestWork_22.2.2.2.1
theorem dX1_longestWork_30 : decode cX1_longestWork 30 = .ok (.ireturn, 1) := dgX1_longestWork_22.2.2.2.2.1
abbrev rmX1_longestWork : Room := { frames := 0, cells := 0, slots := 0, locals := 0 }
noncomputable def fX1_longestWork_b30 (N : Nat)  (t : Nat) (h : Hs) (u0 : Int32) : Option (Int32 × Hs) :=
  some (u0, h)
set_option maxHeartbeats 4000000 in
set_option maxRecDepth 20000 in
theorem wX1_longestWork_b30 {p : Program} {l : Launch} {e : Env} {s : State} {m : MethodId} {args : Array Value} {below : List Frame} {meth : Method} {c : Code} {G : Gl} {N : Nat} {h : Hs} {r : Int32 × Hs}  {t : Nat} {u0 : Int32} (C : Cx p s m args meth c cX1_longestWork RX1 1 G) (hret : meth.sig.returnType = (some .int))  (hf : fX1_longestWork_b30 N  t h u0 = some r) : V p l e rmX1_longestWork s m args below meth c G 1 (MQ below (QcG G (some (.inl r.1)) r.2) args s rmX1_longestWork.cells rmX1_longestWork.slots (AG G)) h 0 0 30 [some (.inr (some t))] [.inl u0] := by
  unfold fX1_longestWork_b30 at hf
  exact r_iretF C dX1_longestWork_30 hret hf (by decide) (by decide)
noncomputable def fX1_longestWork (N : Nat) (h : Hs) (t : Nat)  : Option (Int32 × Hs) :=
  (oI 1 8 h (some t)).bind fun v1 =>
  if v1 ≤ 0 then (
  (oI 1 7 h (some t)).bind fun v2 =>
  if v2 ≤ 0 then (
  (oI 1 6 h (some t)).bind fun v3 =>
  if v3 ≤ 0 then (
  fX1_longestWork_b30 N t h 0)
  else fX1_longestWork_b30 N t h 2)
  else some (3, h))
  else some (5, h)
set_option maxHeartbeats 4000000 in
set_option maxRecDepth 20000 in
theorem kX1_longestWork (l : Launch) (G : Gl) {N : Nat} {h : Hs} {t : Nat}  {r : Int32 × Hs} (hf : fX1_longestWork N h t  = some r) : CT l G yX1_longestWork cX1_longestWork 1 (some .int) rmX1_longestWork [.inr (some t)] h (some (.inl r.1)) r.2 := by
  refine mk_CT (by decide) (Nat.le_of_ble_eq_true rfl) ?_
  intro p e s m args below meth c C hret hin
  unfold fX1_longestWork at hf
  refine r_aload_n C dX1_longestWork_0 rfl ?_
  obtain ⟨v1, ev1, hf⟩ := bS hf
  refine r_getI C dX1_longestWork_1 fl_X1_118 rfl ev1 ?_
  refine r_if_le (tgt := 9) C dX1_longestWork_4 (by decide) (fun hc => ?_) (fun hc => ?_)
  · have hf := ifT hf hc
    refine r_aload_n C dX1_longestWork_9 rfl ?_
    obtain ⟨v2, ev2, hf⟩ := bS hf
    refine r_getI C dX1_longestWork_10 fl_X1_115 rfl ev2 ?_
    refine r_if_le (tgt := 18) C dX1_longestWork_13 (by decide) (fun hc => ?_) (fun hc => ?_)
    · have hf := ifT hf hc
      refine r_aload_n C dX1_longestWork_18 rfl ?_
      obtain ⟨v3, ev3, hf⟩ := bS hf
      refine r_getI C dX1_longestWork_19 fl_X1_112 rfl ev3 ?_
      refine r_if_le (tgt := 29) C dX1_longestWork_22 (by decide) (fun hc => ?_) (fun hc => ?_)
      · have hf := ifT hf hc
        refine r_iconst (v := 0) C dX1_longestWork_29 (by decide) ?_
        exact V.sub (wX1_longestWork_b30 C hret hf) (LW_s rfl (LW_e))
      · have hf := ifF hf hc
        refine r_iconst (v := 2) C dX1_longestWork_25 (by decide) ?_
        refine r_goto (tgt := 30) C dX1_longestWork_26 (by decide) ?_
        exact V.sub (wX1_longestWork_b30 C hret hf) (LW_s rfl (LW_e))
    · have hf := ifF hf hc
      refine r_iconst (v := 3) C dX1_longestWork_16 (by decide) ?_
      exact r_iretF C dX1_longestWork_17 hret hf (by decide) (by decide)
  · have hf := ifF hf hc
    refine r_iconst (v := 5) C dX1_longestWork_7 (by decide) ?_
    exact r_iretF C dX1_longestWork_8 hret hf (by decide) (by decide)

theorem dgX1_slot_0 : (decode cX1_slot 0 = .ok (.iload_n 1, 1)) ∧ (decode cX1_slot 1 = .ok (.aload_n 0, 1)) ∧ (decode cX1_slot 2 = .ok (.getfield 115, 3)) ∧ (decode cX1_slot 5 = .ok (.iconst 1, 1)) ∧ (decode cX1_slot 6 = .ok (.iadd, 1)) ∧ (decode cX1_slot 7 = .ok (.imul, 1)) ∧ (decode cX1_slot 8 = .ok (.iload_n 2, 1)) ∧ (decode cX1_slot 9 = .ok (.iadd, 1)) ∧ (decode cX1_slot 10 = .ok (.aload_n 0, 1)) ∧ (decode cX1_slot 11 = .ok (.getfield 118, 3)) ∧ (decode cX1_slot 14 = .ok (.iconst 1, 1)) ∧ (decode cX1_slot 15 = .ok (.iadd, 1)) ∧ True := dkW [(0, .iload_n 1, 1), (1, .aload_n 0, 1), (2, .getfield 115, 3), (5, .iconst 1, 1), (6, .iadd, 1), (7, .imul, 1), (8, .iload_n 2, 1), (9, .iadd, 1), (10, .aload_n 0, 1), (11, .getfield 118, 3), (14, .iconst 1, 1), (15, .iadd, 1)] 0 (by decide +kernel)
theorem dX1_slot_0 : decode cX1_slot 0 = .ok (.iload_n 1, 1) := dgX1_slot_0.1
theorem dX1_slot_1 : decode cX1_slot 1 = .ok (.aload_n 0, 1) := dgX1_slot_0.2.1
theorem dX1_slot_2 : decode cX1_slot 2 = .ok (.getfield 115, 3) := dgX1_slot_0.2.2.1
theorem dX1_slot_5 : decode cX1_slot 5 = .ok (.iconst 1, 1) := dgX1_slot_0.2.2.2.1
theorem dX1_slot_6 : decode cX1_slot 6 = .ok (.iadd, 1) := dgX1_slot_0.2.2.2.2.1
theorem dX1_slot_7 : decode cX1_slot 7 = .ok (.imul, 1) := dgX1_slot_0.2.2.2.2.2.1
theorem dX1_slot_8 : decode cX1_slot 8 = .ok (.iload_n 2, 1) := dgX1_slot_0.2.2.2.2.2.2.1
theorem dX1_slot_9 : decode cX1_slot 9 = .ok (.iadd, 1) := dgX1_slot_0.2.2.2.2.2.2.2.1
theorem dX1_slot_10 : decode cX1_slot 10 = .ok (.aload_n 0, 1) := dgX1_slot_0.2.2.2.2.2.2.2.2.1
theorem dX1_slot_11 : decode cX1_slot 11 = .ok (.getfield 118, 3) := dgX1_slot_0.2.2.2.2.2.2.2.2.2.1
theorem dX1_slot_14 : decode cX1_slot 14 = .ok (.iconst 1, 1) := dgX1_slot_0.2.2.2.2.2.2.2.2.2.2.1
theorem dX1_slot_15 : decode cX1_slot 15 = .ok (.iadd, 1) := dgX1_slot_0.2.2.2.2.2.2.2.2.2.2.2.1
theorem dgX1_slot_16 : (decode cX1_slot 16 = .ok (.imul, 1)) ∧ (decode cX1_slot 17 = .ok (.iload_n 3, 1)) ∧ (decode cX1_slot 18 = .ok (.iadd, 1)) ∧ (decode cX1_slot 19 = .ok (.ireturn, 1)) ∧ True := dkW [(16, .imul, 1), (17, .iload_n 3, 1), (18, .iadd, 1), (19, .ireturn, 1)] 16 (by decide +kernel)
theorem dX1_slot_16 : decode cX1_slot 16 = .ok (.imul, 1) := dgX1_slot_16.1
theorem dX1_slot_17 : decode cX1_slot 17 = .ok (.iload_n 3, 1) := dgX1_slot_16.2.1
theorem dX1_slot_18 : decode cX1_slot 18 = .ok (.iadd, 1) := dgX1_slot_16.2.2.1
theorem dX1_slot_19 : decode cX1_slot 19 = .ok (.ireturn, 1) := dgX1_slot_16.2.2.2.1
abbrev rmX1_slot : Room := { frames := 0, cells := 0, slots := 0, locals := 0 }
noncomputable def fX1_slot (N : Nat) (h : Hs) (t : Nat) (p1 : Int32) (p2 : Int32) (p3 : Int32) : Option (Int32 × Hs) :=
  (oI 1 7 h (some t)).bind fun v1 =>
  (oI 1 8 h (some t)).bind fun v2 =>
  some ((((p1 * (v1 + 1)) + p2) * (v2 + 1)) + p3, h)
set_option maxHeartbeats 4000000 in
set_option maxRecDepth 20000 in
theorem kX1_slot (l : Launch) (G : Gl) {N : Nat} {h : Hs} {t : Nat} {p1 : Int32} {p2 : Int32} {p3 : Int32} {r : Int32 × Hs} (hf : fX1_slot N h t p1 p2 p3 = some r) : CT l G yX1_slot cX1_slot 4 (some .int) rmX1_slot [.inr (some t), .inl p1, .inl p2, .inl p3] h (some (.inl r.1)) r.2 := by
  refine mk_CT (by decide) (Nat.le_of_ble_eq_true rfl) ?_
  intro p e s m args below meth c C hret hin
  unfold fX1_slot at hf
  refine r_iload_n C dX1_slot_0 rfl ?_
  refine r_aload_n C dX1_slot_1 rfl ?_
  obtain ⟨v1, ev1, hf⟩ := bS hf
  refine r_getI C dX1_slot_2 fl_X1_115 rfl ev1 ?_
  refine r_iconst (v := 1) C dX1_slot_5 (by decide) ?_
  refine r_iadd C dX1_slot_6 ?_
  refine r_imul C dX1_slot_7 ?_
  refine r_iload_n C dX1_slot_8 rfl ?_
  refine r_iadd C dX1_slot_9 ?_
  refine r_aload_n C dX1_slot_10 rfl ?_
  obtain ⟨v2, ev2, hf⟩ := bS hf
  refine r_getI C dX1_slot_11 fl_X1_118 rfl ev2 ?_
  refine r_iconst (v := 1) C dX1_slot_14 (by decide) ?_
  refine r_iadd C dX1_slot_15 ?_
  refine r_imul C dX1_slot_16 ?_
  refine r_iload_n C dX1_slot_17 rfl ?_
  refine r_iadd C dX1_slot_18 ?_
  exact r_iretF C dX1_slot_19 hret hf (by decide) (by decide)

theorem dgX1_withWork_0 : (decode cX1_withWork 0 = .ok (.iload_n 1, 1)) ∧ (decode cX1_withWork 1 = .ok (.bipush 100, 2)) ∧ (decode cX1_withWork 3 = .ok (.irem, 1)) ∧ (decode cX1_withWork 4 = .ok (.iload_n 2, 1)) ∧ (decode cX1_withWork 5 = .ok (.iadd, 1)) ∧ (decode cX1_withWork 6 = .ok (.iload_n 3, 1)) ∧ (decode cX1_withWork 7 = .ok (.if_icmp .gt 7, 3)) ∧ (decode cX1_withWork 10 = .ok (.iconst 1, 1)) ∧ (decode cX1_withWork 11 = .ok (.goto 4, 3)) ∧ (decode cX1_withWork 14 = .ok (.iconst 0, 1)) ∧ (decode cX1_withWork 15 = .ok (.istore 4, 2)) ∧ (decode cX1_withWork 17 = .ok (.iload 4, 2)) ∧ True := dkW [(0, .iload_n 1, 1), (1, .bipush 100, 2), (3, .irem, 1), (4, .iload_n 2, 1), (5, .iadd, 1), (6, .iload_n 3, 1), (7, .if_icmp .gt 7, 3), (10, .iconst 1, 1), (11, .goto 4, 3), (14, .iconst 0, 1), (15, .istore 4, 2), (17, .iload 4, 2)] 0 (by decide +kernel)
theorem dX1_withWork_0 : decode cX1_withWork 0 = .ok (.iload_n 1, 1) := dgX1_withWork_0.1
theorem dX1_withWork_1 : decode cX1_withWork 1 = .ok (.bipush 100, 2) := dgX1_withWork_0.2.1
theorem dX1_withWork_3 : decode cX1_withWork 3 = .ok (.irem, 1) := dgX1_withWork_0.2.2.1
theorem dX1_withWork_4 : decode cX1_withWork 4 = .ok (.iload_n 2, 1) := dgX1_withWork_0.2.2.2.1
theorem dX1_withWork_5 : decode cX1_withWork 5 = .ok (.iadd, 1) := dgX1_withWork_0.2.2.2.2.1
theorem dX1_withWork_6 : decode cX1_withWork 6 = .ok (.iload_n 3, 1) := dgX1_withWork_0.2.2.2.2.2.1
theorem dX1_withWork_7 : decode cX1_withWork 7 = .ok (.if_icmp .gt 7, 3) := dgX1_withWork_0.2.2.2.2.2.2.1
theorem dX1_withWork_10 : decode cX1_withWork 10 = .ok (.iconst 1, 1) := dgX1_withWork_0.2.2.2.2.2.2.2.1
theorem dX1_withWork_11 : decode cX1_withWork 11 = .ok (.goto 4, 3) := dgX1_withWork_0.2.2.2.2.2.2.2.2.1
theorem dX1_withWork_14 : decode cX1_withWork 14 = .ok (.iconst 0, 1) := dgX1_withWork_0.2.2.2.2.2.2.2.2.2.1
theorem dX1_withWork_15 : decode cX1_withWork 15 = .ok (.istore 4, 2) := dgX1_withWork_0.2.2.2.2.2.2.2.2.2.2.1
theorem dX1_withWork_17 : decode cX1_withWork 17 = .ok (.iload 4, 2) := dgX1_withWork_0.2.2.2.2.2.2.2.2.2.2.2.1
theorem dgX1_withWork_19 : (decode cX1_withWork 19 = .ok (.ifCond .eq 9, 3)) ∧ (decode cX1_withWork 22 = .ok (.iload_n 1, 1)) ∧ (decode cX1_withWork 23 = .ok (.iload_n 2, 1)) ∧ (decode cX1_withWork 24 = .ok (.iadd, 1)) ∧ (decode cX1_withWork 25 = .ok (.goto 14, 3)) ∧ (decode cX1_withWork 28 = .ok (.iload_n 1, 1)) ∧ (decode cX1_withWork 29 = .ok (.bipush 100, 2)) ∧ (decode cX1_withWork 31 = .ok (.idiv, 1)) ∧ (decode cX1_withWork 32 = .ok (.iconst 1, 1)) ∧ (decode cX1_withWork 33 = .ok (.iadd, 1)) ∧ (decode cX1_withWork 34 = .ok (.bipush 100, 2)) ∧ (decode cX1_withWork 36 = .ok (.imul, 1)) ∧ True := dkW [(19, .ifCond .eq 9, 3), (22, .iload_n 1, 1), (23, .iload_n 2, 1), (24, .iadd, 1), (25, .goto 14, 3), (28, .iload_n 1, 1), (29, .bipush 100, 2), (31, .idiv, 1), (32, .iconst 1, 1), (33, .iadd, 1), (34, .bipush 100, 2), (36, .imul, 1)] 19 (by decide +kernel)
theorem dX1_withWork_19 : decode cX1_withWork 19 = .ok (.ifCond .eq 9, 3) := dgX1_withWork_19.1
theorem dX1_withWork_22 : decode cX1_withWork 22 = .ok (.iload_n 1, 1) := dgX1_withWork_19.2.1
theorem dX1_withWork_23 : decode cX1_withWork 23 = .ok (.iload_n 2, 1) := dgX1_withWork_19.2.2.1
theorem dX1_withWork_24 : decode cX1_withWork 24 = .ok (.iadd, 1) := dgX1_withWork_19.2.2.2.1
theorem dX1_withWork_25 : decode cX1_withWork 25 = .ok (.goto 14, 3) := dgX1_withWork_19.2.2.2.2.1
theorem dX1_withWork_28 : decode cX1_withWork 28 = .ok (.iload_n 1, 1) := dgX1_withWork_19.2.2.2.2.2.1
theorem dX1_withWork_29 : decode cX1_withWork 29 = .ok (.bipush 100, 2) := dgX1_withWork_19.2.2.2.2.2.2.1
theorem dX1_withWork_31 : decode cX1_withWork 31 = .ok (.idiv, 1) := dgX1_withWork_19.2.2.2.2.2.2.2.1
theorem dX1_withWork_32 : decode cX1_withWork 32 = .ok (.iconst 1, 1) := dgX1_withWork_19.2.2.2.2.2.2.2.2.1
theorem dX1_withWork_33 : decode cX1_withWork 33 = .ok (.iadd, 1) := dgX1_withWork_19.2.2.2.2.2.2.2.2.2.1
theorem dX1_withWork_34 : decode cX1_withWork 34 = .ok (.bipush 100, 2) := dgX1_withWork_19.2.2.2.2.2.2.2.2.2.2.1
theorem dX1_withWork_36 : decode cX1_withWork 36 = .ok (.imul, 1) := dgX1_withWork_19.2.2.2.2.2.2.2.2.2.2.2.1
theorem dgX1_withWork_37 : (decode cX1_withWork 37 = .ok (.iload_n 2, 1)) ∧ (decode cX1_withWork 38 = .ok (.iadd, 1)) ∧ (decode cX1_withWork 39 = .ok (.ireturn, 1)) ∧ True := dkW [(37, .iload_n 2, 1), (38, .iadd, 1), (39, .ireturn, 1)] 37 (by decide +kernel)
theorem dX1_withWork_37 : decode cX1_withWork 37 = .ok (.iload_n 2, 1) := dgX1_withWork_37.1
theorem dX1_withWork_38 : decode cX1_withWork 38 = .ok (.iadd, 1) := dgX1_withWork_37.2.1
theorem dX1_withWork_39 : decode cX1_withWork 39 = .ok (.ireturn, 1) := dgX1_withWork_37.2.2.1
abbrev rmX1_withWork : Room := { frames := 0, cells := 0, slots := 0, locals := 0 }
noncomputable def fX1_withWork_b39 (N : Nat)  (t : Nat) (h : Hs) (u0 : Int32) : Option (Int32 × Hs) :=
  some (u0, h)
set_option maxHeartbeats 4000000 in
set_option maxRecDepth 20000 in
theorem wX1_withWork_b39 {p : Program} {l : Launch} {e : Env} {s : State} {m : MethodId} {args : Array Value} {below : List Frame} {meth : Method} {c : Code} {G : Gl} {N : Nat} {h : Hs} {r : Int32 × Hs}  {t : Nat} {u0 : Int32} (C : Cx p s m args meth c cX1_withWork RX1 5 G) (hret : meth.sig.returnType = (some .int))  (hf : fX1_withWork_b39 N  t h u0 = some r) : V p l e rmX1_withWork s m args below meth c G 5 (MQ below (QcG G (some (.inl r.1)) r.2) args s rmX1_withWork.cells rmX1_withWork.slots (AG G)) h 0 0 39 [some (.inr (some t)), none, none, none, none] [.inl u0] := by
  unfold fX1_withWork_b39 at hf
  exact r_iretF C dX1_withWork_39 hret hf (by decide) (by decide)
noncomputable def fX1_withWork_b15 (N : Nat)  (t : Nat) (h : Hs) (x1 : Int32) (x2 : Int32) (u0 : Int32) : Option (Int32 × Hs) :=
  if u0 = 0 then (
  fX1_withWork_b39 N t h ((((x1 / 100) + 1) * 100) + x2))
  else fX1_withWork_b39 N t h (x1 + x2)
set_option maxHeartbeats 4000000 in
set_option maxRecDepth 20000 in
theorem wX1_withWork_b15 {p : Program} {l : Launch} {e : Env} {s : State} {m : MethodId} {args : Array Value} {below : List Frame} {meth : Method} {c : Code} {G : Gl} {N : Nat} {h : Hs} {r : Int32 × Hs}  {t : Nat} {x1 : Int32} {x2 : Int32} {u0 : Int32} (C : Cx p s m args meth c cX1_withWork RX1 5 G) (hret : meth.sig.returnType = (some .int))  (hf : fX1_withWork_b15 N  t h x1 x2 u0 = some r) : V p l e rmX1_withWork s m args below meth c G 5 (MQ below (QcG G (some (.inl r.1)) r.2) args s rmX1_withWork.cells rmX1_withWork.slots (AG G)) h 0 0 15 [some (.inr (some t)), some (.inl x1), some (.inl x2), none, none] [.inl u0] := by
  unfold fX1_withWork_b15 at hf
  refine r_istore C dX1_withWork_15 (by decide) ?_
  refine r_iload C dX1_withWork_17 rfl ?_
  refine r_if_eq (tgt := 28) C dX1_withWork_19 (by decide) (fun hc => ?_) (fun hc => ?_)
  · have hf := ifT hf hc
    refine r_iload_n C dX1_withWork_28 rfl ?_
    refine r_bipush (v := 100) C dX1_withWork_29 (by decide) ?_
    refine r_idivK C dX1_withWork_31 (by decide) ?_
    refine r_iconst (v := 1) C dX1_withWork_32 (by decide) ?_
    refine r_iadd C dX1_withWork_33 ?_
    refine r_bipush (v := 100) C dX1_withWork_34 (by decide) ?_
    refine r_imul C dX1_withWork_36 ?_
    refine r_iload_n C dX1_withWork_37 rfl ?_
    refine r_iadd C dX1_withWork_38 ?_
    exact V.sub (wX1_withWork_b39 C hret hf) (LW_s rfl (LW_n (LW_n (LW_n (LW_n (LW_e))))))
  · have hf := ifF hf hc
    refine r_iload_n C dX1_withWork_22 rfl ?_
    refine r_iload_n C dX1_withWork_23 rfl ?_
    refine r_iadd C dX1_withWork_24 ?_
    refine r_goto (tgt := 39) C dX1_withWork_25 (by decide) ?_
    exact V.sub (wX1_withWork_b39 C hret hf) (LW_s rfl (LW_n (LW_n (LW_n (LW_n (LW_e))))))
noncomputable def fX1_withWork (N : Nat) (h : Hs) (t : Nat) (p1 : Int32) (p2 : Int32) (p3 : Int32) : Option (Int32 × Hs) :=
  if p3 < ((p1 - p1 / 100 * 100) + p2) then (
  fX1_withWork_b15 N t h p1 p2 0)
  else fX1_withWork_b15 N t h p1 p2 1
set_option maxHeartbeats 4000000 in
set_option maxRecDepth 20000 in
theorem kX1_withWork (l : Launch) (G : Gl) {N : Nat} {h : Hs} {t : Nat} {p1 : Int32} {p2 : Int32} {p3 : Int32} {r : Int32 × Hs} (hf : fX1_withWork N h t p1 p2 p3 = some r) : CT l G yX1_withWork cX1_withWork 5 (some .int) rmX1_withWork [.inr (some t), .inl p1, .inl p2, .inl p3] h (some (.inl r.1)) r.2 := by
  refine mk_CT (by decide) (Nat.le_of_ble_eq_true rfl) ?_
  intro p e s m args below meth c C hret hin
  unfold fX1_withWork at hf
  refine r_iload_n C dX1_withWork_0 rfl ?_
  refine r_bipush (v := 100) C dX1_withWork_1 (by decide) ?_
  refine r_iremK C dX1_withWork_3 (by decide) ?_
  refine r_iload_n C dX1_withWork_4 rfl ?_
  refine r_iadd C dX1_withWork_5 ?_
  refine r_iload_n C dX1_withWork_6 rfl ?_
  refine r_icmp_gt (tgt := 14) C dX1_withWork_7 (by decide) (fun hc => ?_) (fun hc => ?_)
  · have hf := ifT hf hc
    refine r_iconst (v := 0) C dX1_withWork_14 (by decide) ?_
    exact V.sub (wX1_withWork_b15 C hret hf) (LW_s rfl (LW_s rfl (LW_s rfl (LW_n (LW_n (LW_e))))))
  · have hf := ifF hf hc
    refine r_iconst (v := 1) C dX1_withWork_10 (by decide) ?_
    refine r_goto (tgt := 15) C dX1_withWork_11 (by decide) ?_
    exact V.sub (wX1_withWork_b15 C hret hf) (LW_s rfl (LW_s rfl (LW_s rfl (LW_n (LW_n (LW_e))))))

theorem dgX1_leastShare_0 : (decode cX1_leastShare 0 = .ok (.iload_n 1, 1)) ∧ (decode cX1_leastShare 1 = .ok (.iload_n 2, 1)) ∧ (decode cX1_leastShare 2 = .ok (.iadd, 1)) ∧ (decode cX1_leastShare 3 = .ok (.iload_n 3, 1)) ∧ (decode cX1_leastShare 4 = .ok (.iadd, 1)) ∧ (decode cX1_leastShare 5 = .ok (.ifCond .ne 8, 3)) ∧ (decode cX1_leastShare 8 = .ok (.iload 4, 2)) ∧ (decode cX1_leastShare 10 = .ok (.goto 6, 3)) ∧ (decode cX1_leastShare 13 = .ok (.sipush 10000, 3)) ∧ (decode cX1_leastShare 16 = .ok (.istore 5, 2)) ∧ (decode cX1_leastShare 18 = .ok (.iload_n 1, 1)) ∧ (decode cX1_leastShare 19 = .ok (.ifCond .le 31, 3)) ∧ True := dkW [(0, .iload_n 1, 1), (1, .iload_n 2, 1), (2, .iadd, 1), (3, .iload_n 3, 1), (4, .iadd, 1), (5, .ifCond .ne 8, 3), (8, .iload 4, 2), (10, .goto 6, 3), (13, .sipush 10000, 3), (16, .istore 5, 2), (18, .iload_n 1, 1), (19, .ifCond .le 31, 3)] 0 (by decide +kernel)
theorem dX1_leastShare_0 : decode cX1_leastShare 0 = .ok (.iload_n 1, 1) := dgX1_leastShare_0.1
theorem dX1_leastShare_1 : decode cX1_leastShare 1 = .ok (.iload_n 2, 1) := dgX1_leastShare_0.2.1
theorem dX1_leastShare_2 : decode cX1_leastShare 2 = .ok (.iadd, 1) := dgX1_leastShare_0.2.2.1
theorem dX1_leastShare_3 : decode cX1_leastShare 3 = .ok (.iload_n 3, 1) := dgX1_leastShare_0.2.2.2.1
theorem dX1_leastShare_4 : decode cX1_leastShare 4 = .ok (.iadd, 1) := dgX1_leastShare_0.2.2.2.2.1
theorem dX1_leastShare_5 : decode cX1_leastShare 5 = .ok (.ifCond .ne 8, 3) := dgX1_leastShare_0.2.2.2.2.2.1
theorem dX1_leastShare_8 : decode cX1_leastShare 8 = .ok (.iload 4, 2) := dgX1_leastShare_0.2.2.2.2.2.2.1
theorem dX1_leastShare_10 : decode cX1_leastShare 10 = .ok (.goto 6, 3) := dgX1_leastShare_0.2.2.2.2.2.2.2.1
theorem dX1_leastShare_13 : decode cX1_leastShare 13 = .ok (.sipush 10000, 3) := dgX1_leastShare_0.2.2.2.2.2.2.2.2.1
theorem dX1_leastShare_16 : decode cX1_leastShare 16 = .ok (.istore 5, 2) := dgX1_leastShare_0.2.2.2.2.2.2.2.2.2.1
theorem dX1_leastShare_18 : decode cX1_leastShare 18 = .ok (.iload_n 1, 1) := dgX1_leastShare_0.2.2.2.2.2.2.2.2.2.2.1
theorem dX1_leastShare_19 : decode cX1_leastShare 19 = .ok (.ifCond .le 31, 3) := dgX1_leastShare_0.2.2.2.2.2.2.2.2.2.2.2.1
theorem dgX1_leastShare_22 : (decode cX1_leastShare 22 = .ok (.iload 5, 2)) ∧ (decode cX1_leastShare 24 = .ok (.aload_n 0, 1)) ∧ (decode cX1_leastShare 25 = .ok (.aload_n 0, 1)) ∧ (decode cX1_leastShare 26 = .ok (.getfield 18, 3)) ∧ (decode cX1_leastShare 29 = .ok (.aload_n 0, 1)) ∧ (decode cX1_leastShare 30 = .ok (.iload_n 1, 1)) ∧ (decode cX1_leastShare 31 = .ok (.iconst 1, 1)) ∧ (decode cX1_leastShare 32 = .ok (.isub, 1)) ∧ (decode cX1_leastShare 33 = .ok (.iload_n 2, 1)) ∧ (decode cX1_leastShare 34 = .ok (.iload_n 3, 1)) ∧ (decode cX1_leastShare 35 = .ok (.invokevirtual 159, 3)) ∧ (decode cX1_leastShare 38 = .ok (.iaload, 1)) ∧ True := dkW [(22, .iload 5, 2), (24, .aload_n 0, 1), (25, .aload_n 0, 1), (26, .getfield 18, 3), (29, .aload_n 0, 1), (30, .iload_n 1, 1), (31, .iconst 1, 1), (32, .isub, 1), (33, .iload_n 2, 1), (34, .iload_n 3, 1), (35, .invokevirtual 159, 3), (38, .iaload, 1)] 22 (by decide +kernel)
theorem dX1_leastShare_22 : decode cX1_leastShare 22 = .ok (.iload 5, 2) := dgX1_leastShare_22.1
theorem dX1_leastShare_24 : decode cX1_leastShare 24 = .ok (.aload_n 0, 1) := dgX1_leastShare_22.2.1
theorem dX1_leastShare_25 : decode cX1_leastShare 25 = .ok (.aload_n 0, 1) := dgX1_leastShare_22.2.2.1
theorem dX1_leastShare_26 : decode cX1_leastShare 26 = .ok (.getfield 18, 3) := dgX1_leastShare_22.2.2.2.1
theorem dX1_leastShare_29 : decode cX1_leastShare 29 = .ok (.aload_n 0, 1) := dgX1_leastShare_22.2.2.2.2.1
theorem dX1_leastShare_30 : decode cX1_leastShare 30 = .ok (.iload_n 1, 1) := dgX1_leastShare_22.2.2.2.2.2.1
theorem dX1_leastShare_31 : decode cX1_leastShare 31 = .ok (.iconst 1, 1) := dgX1_leastShare_22.2.2.2.2.2.2.1
theorem dX1_leastShare_32 : decode cX1_leastShare 32 = .ok (.isub, 1) := dgX1_leastShare_22.2.2.2.2.2.2.2.1
theorem dX1_leastShare_33 : decode cX1_leastShare 33 = .ok (.iload_n 2, 1) := dgX1_leastShare_22.2.2.2.2.2.2.2.2.1
theorem dX1_leastShare_34 : decode cX1_leastShare 34 = .ok (.iload_n 3, 1) := dgX1_leastShare_22.2.2.2.2.2.2.2.2.2.1
theorem dX1_leastShare_35 : decode cX1_leastShare 35 = .ok (.invokevirtual 159, 3) := dgX1_leastShare_22.2.2.2.2.2.2.2.2.2.2.1
theorem dX1_leastShare_38 : decode cX1_leastShare 38 = .ok (.iaload, 1) := dgX1_leastShare_22.2.2.2.2.2.2.2.2.2.2.2.1
theorem dgX1_leastShare_39 : (decode cX1_leastShare 39 = .ok (.iconst 2, 1)) ∧ (decode cX1_leastShare 40 = .ok (.iload 4, 2)) ∧ (decode cX1_leastShare 42 = .ok (.invokevirtual 163, 3)) ∧ (decode cX1_leastShare 45 = .ok (.invokestatic 166, 3)) ∧ (decode cX1_leastShare 48 = .ok (.istore 5, 2)) ∧ (decode cX1_leastShare 50 = .ok (.iload_n 2, 1)) ∧ (decode cX1_leastShare 51 = .ok (.ifCond .le 31, 3)) ∧ (decode cX1_leastShare 54 = .ok (.iload 5, 2)) ∧ (decode cX1_leastShare 56 = .ok (.aload_n 0, 1)) ∧ (decode cX1_leastShare 57 = .ok (.aload_n 0, 1)) ∧ (decode cX1_leastShare 58 = .ok (.getfield 18, 3)) ∧ (decode cX1_leastShare 61 = .ok (.aload_n 0, 1)) ∧ True := dkW [(39, .iconst 2, 1), (40, .iload 4, 2), (42, .invokevirtual 163, 3), (45, .invokestatic 166, 3), (48, .istore 5, 2), (50, .iload_n 2, 1), (51, .ifCond .le 31, 3), (54, .iload 5, 2), (56, .aload_n 0, 1), (57, .aload_n 0, 1), (58, .getfield 18, 3), (61, .aload_n 0, 1)] 39 (by decide +kernel)
theorem dX1_leastShare_39 : decode cX1_leastShare 39 = .ok (.iconst 2, 1) := dgX1_leastShare_39.1
theorem dX1_leastShare_40 : decode cX1_leastShare 40 = .ok (.iload 4, 2) := dgX1_leastShare_39.2.1
theorem dX1_leastShare_42 : decode cX1_leastShare 42 = .ok (.invokevirtual 163, 3) := dgX1_leastShare_39.2.2.1
theorem dX1_leastShare_45 : decode cX1_leastShare 45 = .ok (.invokestatic 166, 3) := dgX1_leastShare_39.2.2.2.1
theorem dX1_leastShare_48 : decode cX1_leastShare 48 = .ok (.istore 5, 2) := dgX1_leastShare_39.2.2.2.2.1
theorem dX1_leastShare_50 : decode cX1_leastShare 50 = .ok (.iload_n 2, 1) := dgX1_leastShare_39.2.2.2.2.2.1
theorem dX1_leastShare_51 : decode cX1_leastShare 51 = .ok (.ifCond .le 31, 3) := dgX1_leastShare_39.2.2.2.2.2.2.1
theorem dX1_leastShare_54 : decode cX1_leastShare 54 = .ok (.iload 5, 2) := dgX1_leastShare_39.2.2.2.2.2.2.2.1
theorem dX1_leastShare_56 : decode cX1_leastShare 56 = .ok (.aload_n 0, 1) := dgX1_leastShare_39.2.2.2.2.2.2.2.2.1
theorem dX1_leastShare_57 : decode cX1_leastShare 57 = .ok (.aload_n 0, 1) := dgX1_leastShare_39.2.2.2.2.2.2.2.2.2.1
theorem dX1_leastShare_58 : decode cX1_leastShare 58 = .ok (.getfield 18, 3) := dgX1_leastShare_39.2.2.2.2.2.2.2.2.2.2.1
theorem dX1_leastShare_61 : decode cX1_leastShare 61 = .ok (.aload_n 0, 1) := dgX1_leastShare_39.2.2.2.2.2.2.2.2.2.2.2.1
theorem dgX1_leastShare_62 : (decode cX1_leastShare 62 = .ok (.iload_n 1, 1)) ∧ (decode cX1_leastShare 63 = .ok (.iload_n 2, 1)) ∧ (decode cX1_leastShare 64 = .ok (.iconst 1, 1)) ∧ (decode cX1_leastShare 65 = .ok (.isub, 1)) ∧ (decode cX1_leastShare 66 = .ok (.iload_n 3, 1)) ∧ (decode cX1_leastShare 67 = .ok (.invokevirtual 159, 3)) ∧ (decode cX1_leastShare 70 = .ok (.iaload, 1)) ∧ (decode cX1_leastShare 71 = .ok (.iconst 3, 1)) ∧ (decode cX1_leastShare 72 = .ok (.iload 4, 2)) ∧ (decode cX1_leastShare 74 = .ok (.invokevirtual 163, 3)) ∧ (decode cX1_leastShare 77 = .ok (.invokestatic 166, 3)) ∧ (decode cX1_leastShare 80 = .ok (.istore 5, 2)) ∧ True := dkW [(62, .iload_n 1, 1), (63, .iload_n 2, 1), (64, .iconst 1, 1), (65, .isub, 1), (66, .iload_n 3, 1), (67, .invokevirtual 159, 3), (70, .iaload, 1), (71, .iconst 3, 1), (72, .iload 4, 2), (74, .invokevirtual 163, 3), (77, .invokestatic 166, 3), (80, .istore 5, 2)] 62 (by decide +kernel)
theorem dX1_leastShare_62 : decode cX1_leastShare 62 = .ok (.iload_n 1, 1) := dgX1_leastShare_62.1
theorem dX1_leastShare_63 : decode cX1_leastShare 63 = .ok (.iload_n 2, 1) := dgX1_leastShare_62.2.1
theorem dX1_leastShare_64 : decode cX1_leastShare 64 = .ok (.iconst 1, 1) := dgX1_leastShare_62.2.2.1
theorem dX1_leastShare_65 : decode cX1_leastShare 65 = .ok (.isub, 1) := dgX1_leastShare_62.2.2.2.1
theorem dX1_leastShare_66 : decode cX1_leastShare 66 = .ok (.iload_n 3, 1) := dgX1_leastShare_62.2.2.2.2.1
theorem dX1_leastShare_67 : decode cX1_leastShare 67 = .ok (.invokevirtual 159, 3) := dgX1_leastShare_62.2.2.2.2.2.1
theorem dX1_leastShare_70 : decode cX1_leastShare 70 = .ok (.iaload, 1) := dgX1_leastShare_62.2.2.2.2.2.2.1
theorem dX1_leastShare_71 : decode cX1_leastShare 71 = .ok (.iconst 3, 1) := dgX1_leastShare_62.2.2.2.2.2.2.2.1
theorem dX1_leastShare_72 : decode cX1_leastShare 72 = .ok (.iload 4, 2) := dgX1_leastShare_62.2.2.2.2.2.2.2.2.1
theorem dX1_leastShare_74 : decode cX1_leastShare 74 = .ok (.invokevirtual 163, 3) := dgX1_leastShare_62.2.2.2.2.2.2.2.2.2.1
theorem dX1_leastShare_77 : decode cX1_leastShare 77 = .ok (.invokestatic 166, 3) := dgX1_leastShare_62.2.2.2.2.2.2.2.2.2.2.1
theorem dX1_leastShare_80 : decode cX1_leastShare 80 = .ok (.istore 5, 2) := dgX1_leastShare_62.2.2.2.2.2.2.2.2.2.2.2.1
theorem dgX1_leastShare_82 : (decode cX1_leastShare 82 = .ok (.iload_n 3, 1)) ∧ (decode cX1_leastShare 83 = .ok (.ifCond .le 31, 3)) ∧ (decode cX1_leastShare 86 = .ok (.iload 5, 2)) ∧ (decode cX1_leastShare 88 = .ok (.aload_n 0, 1)) ∧ (decode cX1_leastShare 89 = .ok (.aload_n 0, 1)) ∧ (decode cX1_leastShare 90 = .ok (.getfield 18, 3)) ∧ (decode cX1_leastShare 93 = .ok (.aload_n 0, 1)) ∧ (decode cX1_leastShare 94 = .ok (.iload_n 1, 1)) ∧ (decode cX1_leastShare 95 = .ok (.iload_n 2, 1)) ∧ (decode cX1_leastShare 96 = .ok (.iload_n 3, 1)) ∧ (decode cX1_leastShare 97 = .ok (.iconst 1, 1)) ∧ (decode cX1_leastShare 98 = .ok (.isub, 1)) ∧ True := dkW [(82, .iload_n 3, 1), (83, .ifCond .le 31, 3), (86, .iload 5, 2), (88, .aload_n 0, 1), (89, .aload_n 0, 1), (90, .getfield 18, 3), (93, .aload_n 0, 1), (94, .iload_n 1, 1), (95, .iload_n 2, 1), (96, .iload_n 3, 1), (97, .iconst 1, 1), (98, .isub, 1)] 82 (by decide +kernel)
theorem dX1_leastShare_82 : decode cX1_leastShare 82 = .ok (.iload_n 3, 1) := dgX1_leastShare_82.1
theorem dX1_leastShare_83 : decode cX1_leastShare 83 = .ok (.ifCond .le 31, 3) := dgX1_leastShare_82.2.1
theorem dX1_leastShare_86 : decode cX1_leastShare 86 = .ok (.iload 5, 2) := dgX1_leastShare_82.2.2.1
theorem dX1_leastShare_88 : decode cX1_leastShare 88 = .ok (.aload_n 0, 1) := dgX1_leastShare_82.2.2.2.1
theorem dX1_leastShare_89 : decode cX1_leastShare 89 = .ok (.aload_n 0, 1) := dgX1_leastShare_82.2.2.2.2.1
theorem dX1_leastShare_90 : decode cX1_leastShare 90 = .ok (.getfield 18, 3) := dgX1_leastShare_82.2.2.2.2.2.1
theorem dX1_leastShare_93 : decode cX1_leastShare 93 = .ok (.aload_n 0, 1) := dgX1_leastShare_82.2.2.2.2.2.2.1
theorem dX1_leastShare_94 : decode cX1_leastShare 94 = .ok (.iload_n 1, 1) := dgX1_leastShare_82.2.2.2.2.2.2.2.1
theorem dX1_leastShare_95 : decode cX1_leastShare 95 = .ok (.iload_n 2, 1) := dgX1_leastShare_82.2.2.2.2.2.2.2.2.1
theorem dX1_leastShare_96 : decode cX1_leastShare 96 = .ok (.iload_n 3, 1) := dgX1_leastShare_82.2.2.2.2.2.2.2.2.2.1
theorem dX1_leastShare_97 : decode cX1_leastShare 97 = .ok (.iconst 1, 1) := dgX1_leastShare_82.2.2.2.2.2.2.2.2.2.2.1
theorem dX1_leastShare_98 : decode cX1_leastShare 98 = .ok (.isub, 1) := dgX1_leastShare_82.2.2.2.2.2.2.2.2.2.2.2.1
theorem dgX1_leastShare_99 : (decode cX1_leastShare 99 = .ok (.invokevirtual 159, 3)) ∧ (decode cX1_leastShare 102 = .ok (.iaload, 1)) ∧ (decode cX1_leastShare 103 = .ok (.iconst 5, 1)) ∧ (decode cX1_leastShare 104 = .ok (.iload 4, 2)) ∧ (decode cX1_leastShare 106 = .ok (.invokevirtual 163, 3)) ∧ (decode cX1_leastShare 109 = .ok (.invokestatic 166, 3)) ∧ (decode cX1_leastShare 112 = .ok (.istore 5, 2)) ∧ (decode cX1_leastShare 114 = .ok (.iload 5, 2)) ∧ (decode cX1_leastShare 116 = .ok (.ireturn, 1)) ∧ True := dkW [(99, .invokevirtual 159, 3), (102, .iaload, 1), (103, .iconst 5, 1), (104, .iload 4, 2), (106, .invokevirtual 163, 3), (109, .invokestatic 166, 3), (112, .istore 5, 2), (114, .iload 5, 2), (116, .ireturn, 1)] 99 (by decide +kernel)
theorem dX1_leastShare_99 : decode cX1_leastShare 99 = .ok (.invokevirtual 159, 3) := dgX1_leastShare_99.1
theorem dX1_leastShare_102 : decode cX1_leastShare 102 = .ok (.iaload, 1) := dgX1_leastShare_99.2.1
theorem dX1_leastShare_103 : decode cX1_leastShare 103 = .ok (.iconst 5, 1) := dgX1_leastShare_99.2.2.1
theorem dX1_leastShare_104 : decode cX1_leastShare 104 = .ok (.iload 4, 2) := dgX1_leastShare_99.2.2.2.1
theorem dX1_leastShare_106 : decode cX1_leastShare 106 = .ok (.invokevirtual 163, 3) := dgX1_leastShare_99.2.2.2.2.1
theorem dX1_leastShare_109 : decode cX1_leastShare 109 = .ok (.invokestatic 166, 3) := dgX1_leastShare_99.2.2.2.2.2.1
theorem dX1_leastShare_112 : decode cX1_leastShare 112 = .ok (.istore 5, 2) := dgX1_leastShare_99.2.2.2.2.2.2.1
theorem dX1_leastShare_114 : decode cX1_leastShare 114 = .ok (.iload 5, 2) := dgX1_leastShare_99.2.2.2.2.2.2.2.1
theorem dX1_leastShare_116 : decode cX1_leastShare 116 = .ok (.ireturn, 1) := dgX1_leastShare_99.2.2.2.2.2.2.2.2.1
abbrev rmX1_leastShare : Room := { frames := 1, cells := 0, slots := 0, locals := 24 }
noncomputable def fX1_leastShare_b114 (N : Nat)  (t : Nat) (h : Hs) (x5 : Int32) : Option (Int32 × Hs) :=
  some (x5, h)
set_option maxHeartbeats 4000000 in
set_option maxRecDepth 20000 in
theorem wX1_leastShare_b114 {p : Program} {l : Launch} {e : Env} {s : State} {m : MethodId} {args : Array Value} {below : List Frame} {meth : Method} {c : Code} {G : Gl} {N : Nat} {h : Hs} {r : Int32 × Hs}  {t : Nat} {x5 : Int32} (C : Cx p s m args meth c cX1_leastShare RX1 6 G) (hret : meth.sig.returnType = (some .int))  (hf : fX1_leastShare_b114 N  t h x5 = some r) : V p l e rmX1_leastShare s m args below meth c G 6 (MQ below (QcG G (some (.inl r.1)) r.2) args s rmX1_leastShare.cells rmX1_leastShare.slots (AG G)) h 0 0 114 [some (.inr (some t)), none, none, none, none, some (.inl x5)] [] := by
  unfold fX1_leastShare_b114 at hf
  refine r_iload C dX1_leastShare_114 rfl ?_
  exact r_iretF C dX1_leastShare_116 hret hf (by decide) (by decide)
noncomputable def fX1_leastShare_b82 (N : Nat)  (t : Nat) (h : Hs) (x1 : Int32) (x2 : Int32) (x3 : Int32) (x4 : Int32) (x5 : Int32) : Option (Int32 × Hs) :=
  if x3 ≤ 0 then (
  fX1_leastShare_b114 N t h x5)
  else (oR 1 3 h (some t)).bind fun o1 =>
  (rc 1 h (some t)).bind fun a3 =>
  (fX1_slot N h a3 x1 x2 (x3 - 1)).bind fun r2 =>
  (lA 20 r2.2 o1 r2.1).bind fun v4 =>
  (rc 1 r2.2 (some t)).bind fun a6 =>
  (fX1_withWork N r2.2 a6 v4 5 x4).bind fun r5 =>
  (some (if r5.1 < x5 then r5.1 else x5 : Int32)).bind fun y7 =>
  fX1_leastShare_b114 N t r5.2 y7
set_option maxHeartbeats 4000000 in
set_option maxRecDepth 20000 in
theorem wX1_leastShare_b82 {p : Program} {l : Launch} {e : Env} {s : State} {m : MethodId} {args : Array Value} {below : List Frame} {meth : Method} {c : Code} {G : Gl} {N : Nat} {h : Hs} {r : Int32 × Hs}  {t : Nat} {x1 : Int32} {x2 : Int32} {x3 : Int32} {x4 : Int32} {x5 : Int32} (C : Cx p s m args meth c cX1_leastShare RX1 6 G) (hret : meth.sig.returnType = (some .int))  (hf : fX1_leastShare_b82 N  t h x1 x2 x3 x4 x5 = some r) : V p l e rmX1_leastShare s m args below meth c G 6 (MQ below (QcG G (some (.inl r.1)) r.2) args s rmX1_leastShare.cells rmX1_leastShare.slots (AG G)) h 0 0 82 [some (.inr (some t)), some (.inl x1), some (.inl x2), some (.inl x3), some (.inl x4), some (.inl x5)] [] := by
  unfold fX1_leastShare_b82 at hf
  refine r_iload_n C dX1_leastShare_82 rfl ?_
  refine r_if_le (tgt := 114) C dX1_leastShare_83 (by decide) (fun hc => ?_) (fun hc => ?_)
  · have hf := ifT hf hc
    exact V.sub (wX1_leastShare_b114 C hret hf) (LW_s rfl (LW_n (LW_n (LW_n (LW_n (LW_s rfl (LW_e)))))))
  · have hf := ifF hf hc
    refine r_iload C dX1_leastShare_86 rfl ?_
    refine r_aload_n C dX1_leastShare_88 rfl ?_
    refine r_aload_n C dX1_leastShare_89 rfl ?_
    obtain ⟨o1, eo1, hf⟩ := bS hf
    refine r_getR C dX1_leastShare_90 fl_X1_18 rfl eo1 ?_
    refine r_aload_n C dX1_leastShare_93 rfl ?_
    refine r_iload_n C dX1_leastShare_94 rfl ?_
    refine r_iload_n C dX1_leastShare_95 rfl ?_
    refine r_iload_n C dX1_leastShare_96 rfl ?_
    refine r_iconst (v := 1) C dX1_leastShare_97 (by decide) ?_
    refine r_isub C dX1_leastShare_98 ?_
    obtain ⟨a3, ea3, hf⟩ := bS hf
    obtain ⟨r2, er2, hf⟩ := bS hf
    refine r_invV1 (As := [.inl x1, .inl x2, .inl (x3 - 1)]) (ci := 1) C dX1_leastShare_99 mcX1_slot wd_770 wd_772 wp_16 rfl rfl (by decide) ⟨by decide, by decide⟩ ⟨by decide, by decide⟩ rfl (Nat.le_of_ble_eq_true rfl) ea3 (kX1_slot l G er2) ?_
    obtain ⟨v4, ev4, hf⟩ := bS hf
    refine r_iald C dX1_leastShare_102 ev4 ?_
    refine r_iconst (v := 5) C dX1_leastShare_103 (by decide) ?_
    refine r_iload C dX1_leastShare_104 rfl ?_
    obtain ⟨a6, ea6, hf⟩ := bS hf
    obtain ⟨r5, er5, hf⟩ := bS hf
    refine r_invV1 (As := [.inl v4, .inl 5, .inl x4]) (ci := 1) C dX1_leastShare_106 mcX1_withWork wd_774 wd_776 wp_17 rfl rfl (by decide) ⟨by decide, by decide⟩ ⟨by decide, by decide⟩ rfl (Nat.le_of_ble_eq_true rfl) ea6 (kX1_withWork l G er5) ?_
    refine r_mmin C dX1_leastShare_109 ⟨wd_778, wd_634, wd_14, wd_635⟩ (by decide) (Nat.le_of_ble_eq_true rfl) (by decide) (by decide) ?_
    obtain ⟨y7, ey7, hf⟩ := bS hf
    refine r_istoreE C dX1_leastShare_112 (by decide) ey7 ?_
    exact V.sub (wX1_leastShare_b114 C hret hf) (LW_s rfl (LW_n (LW_n (LW_n (LW_n (LW_s rfl (LW_e)))))))
noncomputable def fX1_leastShare_b50 (N : Nat)  (t : Nat) (h : Hs) (x1 : Int32) (x2 : Int32) (x3 : Int32) (x4 : Int32) (x5 : Int32) : Option (Int32 × Hs) :=
  if x2 ≤ 0 then (
  fX1_leastShare_b82 N t h x1 x2 x3 x4 x5)
  else (oR 1 3 h (some t)).bind fun o1 =>
  (rc 1 h (some t)).bind fun a3 =>
  (fX1_slot N h a3 x1 (x2 - 1) x3).bind fun r2 =>
  (lA 20 r2.2 o1 r2.1).bind fun v4 =>
  (rc 1 r2.2 (some t)).bind fun a6 =>
  (fX1_withWork N r2.2 a6 v4 3 x4).bind fun r5 =>
  (some (if r5.1 < x5 then r5.1 else x5 : Int32)).bind fun y7 =>
  fX1_leastShare_b82 N t r5.2 x1 x2 x3 x4 y7
set_option maxHeartbeats 4000000 in
set_option maxRecDepth 20000 in
theorem wX1_leastShare_b50 {p : Program} {l : Launch} {e : Env} {s : State} {m : MethodId} {args : Array Value} {below : List Frame} {meth : Method} {c : Code} {G : Gl} {N : Nat} {h : Hs} {r : Int32 × Hs}  {t : Nat} {x1 : Int32} {x2 : Int32} {x3 : Int32} {x4 : Int32} {x5 : Int32} (C : Cx p s m args meth c cX1_leastShare RX1 6 G) (hret : meth.sig.returnType = (some .int))  (hf : fX1_leastShare_b50 N  t h x1 x2 x3 x4 x5 = some r) : V p l e rmX1_leastShare s m args below meth c G 6 (MQ below (QcG G (some (.inl r.1)) r.2) args s rmX1_leastShare.cells rmX1_leastShare.slots (AG G)) h 0 0 50 [some (.inr (some t)), some (.inl x1), some (.inl x2), some (.inl x3), some (.inl x4), some (.inl x5)] [] := by
  unfold fX1_leastShare_b50 at hf
  refine r_iload_n C dX1_leastShare_50 rfl ?_
  refine r_if_le (tgt := 82) C dX1_leastShare_51 (by decide) (fun hc => ?_) (fun hc => ?_)
  · have hf := ifT hf hc
    exact V.sub (wX1_leastShare_b82 C hret hf) (LW_s rfl (LW_s rfl (LW_s rfl (LW_s rfl (LW_s rfl (LW_s rfl (LW_e)))))))
  · have hf := ifF hf hc
    refine r_iload C dX1_leastShare_54 rfl ?_
    refine r_aload_n C dX1_leastShare_56 rfl ?_
    refine r_aload_n C dX1_leastShare_57 rfl ?_
    obtain ⟨o1, eo1, hf⟩ := bS hf
    refine r_getR C dX1_leastShare_58 fl_X1_18 rfl eo1 ?_
    refine r_aload_n C dX1_leastShare_61 rfl ?_
    refine r_iload_n C dX1_leastShare_62 rfl ?_
    refine r_iload_n C dX1_leastShare_63 rfl ?_
    refine r_iconst (v := 1) C dX1_leastShare_64 (by decide) ?_
    refine r_isub C dX1_leastShare_65 ?_
    refine r_iload_n C dX1_leastShare_66 rfl ?_
    obtain ⟨a3, ea3, hf⟩ := bS hf
    obtain ⟨r2, er2, hf⟩ := bS hf
    refine r_invV1 (As := [.inl x1, .inl (x2 - 1), .inl x3]) (ci := 1) C dX1_leastShare_67 mcX1_slot wd_770 wd_772 wp_16 rfl rfl (by decide) ⟨by decide, by decide⟩ ⟨by decide, by decide⟩ rfl (Nat.le_of_ble_eq_true rfl) ea3 (kX1_slot l G er2) ?_
    obtain ⟨v4, ev4, hf⟩ := bS hf
    refine r_iald C dX1_leastShare_70 ev4 ?_
    refine r_iconst (v := 3) C dX1_leastShare_71 (by decide) ?_
    refine r_iload C dX1_leastShare_72 rfl ?_
    obtain ⟨a6, ea6, hf⟩ := bS hf
    obtain ⟨r5, er5, hf⟩ := bS hf
    refine r_invV1 (As := [.inl v4, .inl 3, .inl x4]) (ci := 1) C dX1_leastShare_74 mcX1_withWork wd_774 wd_776 wp_17 rfl rfl (by decide) ⟨by decide, by decide⟩ ⟨by decide, by decide⟩ rfl (Nat.le_of_ble_eq_true rfl) ea6 (kX1_withWork l G er5) ?_
    refine r_mmin C dX1_leastShare_77 ⟨wd_778, wd_634, wd_14, wd_635⟩ (by decide) (Nat.le_of_ble_eq_true rfl) (by decide) (by decide) ?_
    obtain ⟨y7, ey7, hf⟩ := bS hf
    refine r_istoreE C dX1_leastShare_80 (by decide) ey7 ?_
    exact V.sub (wX1_leastShare_b82 C hret hf) (LW_s rfl (LW_s rfl (LW_s rfl (LW_s rfl (LW_s rfl (LW_s rfl (LW_e)))))))
noncomputable def fX1_leastShare_b16 (N : Nat)  (t : Nat) (h : Hs) (x1 : Int32) (x2 : Int32) (x3 : Int32) (x4 : Int32) (u0 : Int32) : Option (Int32 × Hs) :=
  if x1 ≤ 0 then (
  fX1_leastShare_b50 N t h x1 x2 x3 x4 u0)
  else (oR 1 3 h (some t)).bind fun o1 =>
  (rc 1 h (some t)).bind fun a3 =>
  (fX1_slot N h a3 (x1 - 1) x2 x3).bind fun r2 =>
  (lA 20 r2.2 o1 r2.1).bind fun v4 =>
  (rc 1 r2.2 (some t)).bind fun a6 =>
  (fX1_withWork N r2.2 a6 v4 2 x4).bind fun r5 =>
  (some (if r5.1 < u0 then r5.1 else u0 : Int32)).bind fun y7 =>
  fX1_leastShare_b50 N t r5.2 x1 x2 x3 x4 y7
set_option maxHeartbeats 4000000 in
set_option maxRecDepth 20000 in
theorem wX1_leastShare_b16 {p : Program} {l : Launch} {e : Env} {s : State} {m : MethodId} {args : Array Value} {below : List Frame} {meth : Method} {c : Code} {G : Gl} {N : Nat} {h : Hs} {r : Int32 × Hs}  {t : Nat} {x1 : Int32} {x2 : Int32} {x3 : Int32} {x4 : Int32} {u0 : Int32} (C : Cx p s m args meth c cX1_leastShare RX1 6 G) (hret : meth.sig.returnType = (some .int))  (hf : fX1_leastShare_b16 N  t h x1 x2 x3 x4 u0 = some r) : V p l e rmX1_leastShare s m args below meth c G 6 (MQ below (QcG G (some (.inl r.1)) r.2) args s rmX1_leastShare.cells rmX1_leastShare.slots (AG G)) h 0 0 16 [some (.inr (some t)), some (.inl x1), some (.inl x2), some (.inl x3), some (.inl x4), none] [.inl u0] := by
  unfold fX1_leastShare_b16 at hf
  refine r_istore C dX1_leastShare_16 (by decide) ?_
  refine r_iload_n C dX1_leastShare_18 rfl ?_
  refine r_if_le (tgt := 50) C dX1_leastShare_19 (by decide) (fun hc => ?_) (fun hc => ?_)
  · have hf := ifT hf hc
    exact V.sub (wX1_leastShare_b50 C hret hf) (LW_s rfl (LW_s rfl (LW_s rfl (LW_s rfl (LW_s rfl (LW_s rfl (LW_e)))))))
  · have hf := ifF hf hc
    refine r_iload C dX1_leastShare_22 rfl ?_
    refine r_aload_n C dX1_leastShare_24 rfl ?_
    refine r_aload_n C dX1_leastShare_25 rfl ?_
    obtain ⟨o1, eo1, hf⟩ := bS hf
    refine r_getR C dX1_leastShare_26 fl_X1_18 rfl eo1 ?_
    refine r_aload_n C dX1_leastShare_29 rfl ?_
    refine r_iload_n C dX1_leastShare_30 rfl ?_
    refine r_iconst (v := 1) C dX1_leastShare_31 (by decide) ?_
    refine r_isub C dX1_leastShare_32 ?_
    refine r_iload_n C dX1_leastShare_33 rfl ?_
    refine r_iload_n C dX1_leastShare_34 rfl ?_
    obtain ⟨a3, ea3, hf⟩ := bS hf
    obtain ⟨r2, er2, hf⟩ := bS hf
    refine r_invV1 (As := [.inl (x1 - 1), .inl x2, .inl x3]) (ci := 1) C dX1_leastShare_35 mcX1_slot wd_770 wd_772 wp_16 rfl rfl (by decide) ⟨by decide, by decide⟩ ⟨by decide, by decide⟩ rfl (Nat.le_of_ble_eq_true rfl) ea3 (kX1_slot l G er2) ?_
    obtain ⟨v4, ev4, hf⟩ := bS hf
    refine r_iald C dX1_leastShare_38 ev4 ?_
    refine r_iconst (v := 2) C dX1_leastShare_39 (by decide) ?_
    refine r_iload C dX1_leastShare_40 rfl ?_
    obtain ⟨a6, ea6, hf⟩ := bS hf
    obtain ⟨r5, er5, hf⟩ := bS hf
    refine r_invV1 (As := [.inl v4, .inl 2, .inl x4]) (ci := 1) C dX1_leastShare_42 mcX1_withWork wd_774 wd_776 wp_17 rfl rfl (by decide) ⟨by decide, by decide⟩ ⟨by decide, by decide⟩ rfl (Nat.le_of_ble_eq_true rfl) ea6 (kX1_withWork l G er5) ?_
    refine r_mmin C dX1_leastShare_45 ⟨wd_778, wd_634, wd_14, wd_635⟩ (by decide) (Nat.le_of_ble_eq_true rfl) (by decide) (by decide) ?_
    obtain ⟨y7, ey7, hf⟩ := bS hf
    refine r_istoreE C dX1_leastShare_48 (by decide) ey7 ?_
    exact V.sub (wX1_leastShare_b50 C hret hf) (LW_s rfl (LW_s rfl (LW_s rfl (LW_s rfl (LW_s rfl (LW_s rfl (LW_e)))))))
noncomputable def fX1_leastShare (N : Nat) (h : Hs) (t : Nat) (p1 : Int32) (p2 : Int32) (p3 : Int32) (p4 : Int32) : Option (Int32 × Hs) :=
  if ((p1 + p2) + p3) = 0 then (
  fX1_leastShare_b16 N t h p1 p2 p3 p4 p4)
  else fX1_leastShare_b16 N t h p1 p2 p3 p4 10000
set_option maxHeartbeats 4000000 in
set_option maxRecDepth 20000 in
theorem kX1_leastShare (l : Launch) (G : Gl) {N : Nat} {h : Hs} {t : Nat} {p1 : Int32} {p2 : Int32} {p3 : Int32} {p4 : Int32} {r : Int32 × Hs} (hf : fX1_leastShare N h t p1 p2 p3 p4 = some r) : CT l G yX1_leastShare cX1_leastShare 6 (some .int) rmX1_leastShare [.inr (some t), .inl p1, .inl p2, .inl p3, .inl p4] h (some (.inl r.1)) r.2 := by
  refine mk_CT (by decide) (Nat.le_of_ble_eq_true rfl) ?_
  intro p e s m args below meth c C hret hin
  unfold fX1_leastShare at hf
  refine r_iload_n C dX1_leastShare_0 rfl ?_
  refine r_iload_n C dX1_leastShare_1 rfl ?_
  refine r_iadd C dX1_leastShare_2 ?_
  refine r_iload_n C dX1_leastShare_3 rfl ?_
  refine r_iadd C dX1_leastShare_4 ?_
  refine r_if_ne (tgt := 13) C dX1_leastShare_5 (by decide) (fun hc => ?_) (fun hc => ?_)
  · have hf := ifF hf hc
    refine r_sipush (v := 10000) C dX1_leastShare_13 (by decide) ?_
    exact V.sub (wX1_leastShare_b16 C hret hf) (LW_s rfl (LW_s rfl (LW_s rfl (LW_s rfl (LW_s rfl (LW_n (LW_e)))))))
  · have hf := ifT hf hc
    refine r_iload C dX1_leastShare_8 rfl ?_
    refine r_goto (tgt := 16) C dX1_leastShare_10 (by decide) ?_
    exact V.sub (wX1_leastShare_b16 C hret hf) (LW_s rfl (LW_s rfl (LW_s rfl (LW_s rfl (LW_s rfl (LW_n (LW_e)))))))

theorem dgX1_shareOut_0 : (decode cX1_shareOut 0 = .ok (.iload_n 1, 1)) ∧ (decode cX1_shareOut 1 = .ok (.istore_n 2, 1)) ∧ (decode cX1_shareOut 2 = .ok (.iconst 0, 1)) ∧ (decode cX1_shareOut 3 = .ok (.istore_n 3, 1)) ∧ (decode cX1_shareOut 4 = .ok (.iload_n 3, 1)) ∧ (decode cX1_shareOut 5 = .ok (.aload_n 0, 1)) ∧ (decode cX1_shareOut 6 = .ok (.getfield 112, 3)) ∧ (decode cX1_shareOut 9 = .ok (.if_icmp .gt 71, 3)) ∧ (decode cX1_shareOut 12 = .ok (.iconst 0, 1)) ∧ (decode cX1_shareOut 13 = .ok (.istore 4, 2)) ∧ (decode cX1_shareOut 15 = .ok (.iload 4, 2)) ∧ (decode cX1_shareOut 17 = .ok (.aload_n 0, 1)) ∧ True := dkW [(0, .iload_n 1, 1), (1, .istore_n 2, 1), (2, .iconst 0, 1), (3, .istore_n 3, 1), (4, .iload_n 3, 1), (5, .aload_n 0, 1), (6, .getfield 112, 3), (9, .if_icmp .gt 71, 3), (12, .iconst 0, 1), (13, .istore 4, 2), (15, .iload 4, 2), (17, .aload_n 0, 1)] 0 (by decide +kernel)
theorem dX1_shareOut_0 : decode cX1_shareOut 0 = .ok (.iload_n 1, 1) := dgX1_shareOut_0.1
theorem dX1_shareOut_1 : decode cX1_shareOut 1 = .ok (.istore_n 2, 1) := dgX1_shareOut_0.2.1
theorem dX1_shareOut_2 : decode cX1_shareOut 2 = .ok (.iconst 0, 1) := dgX1_shareOut_0.2.2.1
theorem dX1_shareOut_3 : decode cX1_shareOut 3 = .ok (.istore_n 3, 1) := dgX1_shareOut_0.2.2.2.1
theorem dX1_shareOut_4 : decode cX1_shareOut 4 = .ok (.iload_n 3, 1) := dgX1_shareOut_0.2.2.2.2.1
theorem dX1_shareOut_5 : decode cX1_shareOut 5 = .ok (.aload_n 0, 1) := dgX1_shareOut_0.2.2.2.2.2.1
theorem dX1_shareOut_6 : decode cX1_shareOut 6 = .ok (.getfield 112, 3) := dgX1_shareOut_0.2.2.2.2.2.2.1
theorem dX1_shareOut_9 : decode cX1_shareOut 9 = .ok (.if_icmp .gt 71, 3) := dgX1_shareOut_0.2.2.2.2.2.2.2.1
theorem dX1_shareOut_12 : decode cX1_shareOut 12 = .ok (.iconst 0, 1) := dgX1_shareOut_0.2.2.2.2.2.2.2.2.1
theorem dX1_shareOut_13 : decode cX1_shareOut 13 = .ok (.istore 4, 2) := dgX1_shareOut_0.2.2.2.2.2.2.2.2.2.1
theorem dX1_shareOut_15 : decode cX1_shareOut 15 = .ok (.iload 4, 2) := dgX1_shareOut_0.2.2.2.2.2.2.2.2.2.2.1
theorem dX1_shareOut_17 : decode cX1_shareOut 17 = .ok (.aload_n 0, 1) := dgX1_shareOut_0.2.2.2.2.2.2.2.2.2.2.2.1
theorem dgX1_shareOut_18 : (decode cX1_shareOut 18 = .ok (.getfield 115, 3)) ∧ (decode cX1_shareOut 21 = .ok (.if_icmp .gt 53, 3)) ∧ (decode cX1_shareOut 24 = .ok (.iconst 0, 1)) ∧ (decode cX1_shareOut 25 = .ok (.istore 5, 2)) ∧ (decode cX1_shareOut 27 = .ok (.iload 5, 2)) ∧ (decode cX1_shareOut 29 = .ok (.aload_n 0, 1)) ∧ (decode cX1_shareOut 30 = .ok (.getfield 118, 3)) ∧ (decode cX1_shareOut 33 = .ok (.if_icmp .gt 35, 3)) ∧ (decode cX1_shareOut 36 = .ok (.aload_n 0, 1)) ∧ (decode cX1_shareOut 37 = .ok (.iload_n 3, 1)) ∧ (decode cX1_shareOut 38 = .ok (.iload 4, 2)) ∧ (decode cX1_shareOut 40 = .ok (.iload 5, 2)) ∧ True := dkW [(18, .getfield 115, 3), (21, .if_icmp .gt 53, 3), (24, .iconst 0, 1), (25, .istore 5, 2), (27, .iload 5, 2), (29, .aload_n 0, 1), (30, .getfield 118, 3), (33, .if_icmp .gt 35, 3), (36, .aload_n 0, 1), (37, .iload_n 3, 1), (38, .iload 4, 2), (40, .iload 5, 2)] 18 (by decide +kernel)
theorem dX1_shareOut_18 : decode cX1_shareOut 18 = .ok (.getfield 115, 3) := dgX1_shareOut_18.1
theorem dX1_shareOut_21 : decode cX1_shareOut 21 = .ok (.if_icmp .gt 53, 3) := dgX1_shareOut_18.2.1
theorem dX1_shareOut_24 : decode cX1_shareOut 24 = .ok (.iconst 0, 1) := dgX1_shareOut_18.2.2.1
theorem dX1_shareOut_25 : decode cX1_shareOut 25 = .ok (.istore 5, 2) := dgX1_shareOut_18.2.2.2.1
theorem dX1_shareOut_27 : decode cX1_shareOut 27 = .ok (.iload 5, 2) := dgX1_shareOut_18.2.2.2.2.1
theorem dX1_shareOut_29 : decode cX1_shareOut 29 = .ok (.aload_n 0, 1) := dgX1_shareOut_18.2.2.2.2.2.1
theorem dX1_shareOut_30 : decode cX1_shareOut 30 = .ok (.getfield 118, 3) := dgX1_shareOut_18.2.2.2.2.2.2.1
theorem dX1_shareOut_33 : decode cX1_shareOut 33 = .ok (.if_icmp .gt 35, 3) := dgX1_shareOut_18.2.2.2.2.2.2.2.1
theorem dX1_shareOut_36 : decode cX1_shareOut 36 = .ok (.aload_n 0, 1) := dgX1_shareOut_18.2.2.2.2.2.2.2.2.1
theorem dX1_shareOut_37 : decode cX1_shareOut 37 = .ok (.iload_n 3, 1) := dgX1_shareOut_18.2.2.2.2.2.2.2.2.2.1
theorem dX1_shareOut_38 : decode cX1_shareOut 38 = .ok (.iload 4, 2) := dgX1_shareOut_18.2.2.2.2.2.2.2.2.2.2.1
theorem dX1_shareOut_40 : decode cX1_shareOut 40 = .ok (.iload 5, 2) := dgX1_shareOut_18.2.2.2.2.2.2.2.2.2.2.2.1
theorem dgX1_shareOut_42 : (decode cX1_shareOut 42 = .ok (.iload_n 1, 1)) ∧ (decode cX1_shareOut 43 = .ok (.invokevirtual 155, 3)) ∧ (decode cX1_shareOut 46 = .ok (.istore_n 2, 1)) ∧ (decode cX1_shareOut 47 = .ok (.aload_n 0, 1)) ∧ (decode cX1_shareOut 48 = .ok (.getfield 18, 3)) ∧ (decode cX1_shareOut 51 = .ok (.aload_n 0, 1)) ∧ (decode cX1_shareOut 52 = .ok (.iload_n 3, 1)) ∧ (decode cX1_shareOut 53 = .ok (.iload 4, 2)) ∧ (decode cX1_shareOut 55 = .ok (.iload 5, 2)) ∧ (decode cX1_shareOut 57 = .ok (.invokevirtual 159, 3)) ∧ (decode cX1_shareOut 60 = .ok (.iload_n 2, 1)) ∧ (decode cX1_shareOut 61 = .ok (.iastore, 1)) ∧ True := dkW [(42, .iload_n 1, 1), (43, .invokevirtual 155, 3), (46, .istore_n 2, 1), (47, .aload_n 0, 1), (48, .getfield 18, 3), (51, .aload_n 0, 1), (52, .iload_n 3, 1), (53, .iload 4, 2), (55, .iload 5, 2), (57, .invokevirtual 159, 3), (60, .iload_n 2, 1), (61, .iastore, 1)] 42 (by decide +kernel)
theorem dX1_shareOut_42 : decode cX1_shareOut 42 = .ok (.iload_n 1, 1) := dgX1_shareOut_42.1
theorem dX1_shareOut_43 : decode cX1_shareOut 43 = .ok (.invokevirtual 155, 3) := dgX1_shareOut_42.2.1
theorem dX1_shareOut_46 : decode cX1_shareOut 46 = .ok (.istore_n 2, 1) := dgX1_shareOut_42.2.2.1
theorem dX1_shareOut_47 : decode cX1_shareOut 47 = .ok (.aload_n 0, 1) := dgX1_shareOut_42.2.2.2.1
theorem dX1_shareOut_48 : decode cX1_shareOut 48 = .ok (.getfield 18, 3) := dgX1_shareOut_42.2.2.2.2.1
theorem dX1_shareOut_51 : decode cX1_shareOut 51 = .ok (.aload_n 0, 1) := dgX1_shareOut_42.2.2.2.2.2.1
theorem dX1_shareOut_52 : decode cX1_shareOut 52 = .ok (.iload_n 3, 1) := dgX1_shareOut_42.2.2.2.2.2.2.1
theorem dX1_shareOut_53 : decode cX1_shareOut 53 = .ok (.iload 4, 2) := dgX1_shareOut_42.2.2.2.2.2.2.2.1
theorem dX1_shareOut_55 : decode cX1_shareOut 55 = .ok (.iload 5, 2) := dgX1_shareOut_42.2.2.2.2.2.2.2.2.1
theorem dX1_shareOut_57 : decode cX1_shareOut 57 = .ok (.invokevirtual 159, 3) := dgX1_shareOut_42.2.2.2.2.2.2.2.2.2.1
theorem dX1_shareOut_60 : decode cX1_shareOut 60 = .ok (.iload_n 2, 1) := dgX1_shareOut_42.2.2.2.2.2.2.2.2.2.2.1
theorem dX1_shareOut_61 : decode cX1_shareOut 61 = .ok (.iastore, 1) := dgX1_shareOut_42.2.2.2.2.2.2.2.2.2.2.2.1
theorem dgX1_shareOut_62 : (decode cX1_shareOut 62 = .ok (.iinc 5 1, 3)) ∧ (decode cX1_shareOut 65 = .ok (.goto (-38), 3)) ∧ (decode cX1_shareOut 68 = .ok (.iinc 4 1, 3)) ∧ (decode cX1_shareOut 71 = .ok (.goto (-56), 3)) ∧ (decode cX1_shareOut 74 = .ok (.iinc 3 1, 3)) ∧ (decode cX1_shareOut 77 = .ok (.goto (-73), 3)) ∧ (decode cX1_shareOut 80 = .ok (.iload_n 2, 1)) ∧ (decode cX1_shareOut 81 = .ok (.ireturn, 1)) ∧ True := dkW [(62, .iinc 5 1, 3), (65, .goto (-38), 3), (68, .iinc 4 1, 3), (71, .goto (-56), 3), (74, .iinc 3 1, 3), (77, .goto (-73), 3), (80, .iload_n 2, 1), (81, .ireturn, 1)] 62 (by decide +kernel)
theorem dX1_shareOut_62 : decode cX1_shareOut 62 = .ok (.iinc 5 1, 3) := dgX1_shareOut_62.1
theorem dX1_shareOut_65 : decode cX1_shareOut 65 = .ok (.goto (-38), 3) := dgX1_shareOut_62.2.1
theorem dX1_shareOut_68 : decode cX1_shareOut 68 = .ok (.iinc 4 1, 3) := dgX1_shareOut_62.2.2.1
theorem dX1_shareOut_71 : decode cX1_shareOut 71 = .ok (.goto (-56), 3) := dgX1_shareOut_62.2.2.2.1
theorem dX1_shareOut_74 : decode cX1_shareOut 74 = .ok (.iinc 3 1, 3) := dgX1_shareOut_62.2.2.2.2.1
theorem dX1_shareOut_77 : decode cX1_shareOut 77 = .ok (.goto (-73), 3) := dgX1_shareOut_62.2.2.2.2.2.1
theorem dX1_shareOut_80 : decode cX1_shareOut 80 = .ok (.iload_n 2, 1) := dgX1_shareOut_62.2.2.2.2.2.2.1
theorem dX1_shareOut_81 : decode cX1_shareOut 81 = .ok (.ireturn, 1) := dgX1_shareOut_62.2.2.2.2.2.2.2.1
abbrev rmX1_shareOut : Room := { frames := 2, cells := 0, slots := 0, locals := 49 }
noncomputable def fX1_shareOut_b27_body (N : Nat) (g4 : Hs → Int32 → Int32 → Int32 → Option (Int32 × Hs)) (g15 : Hs → Int32 → Int32 → Int32 → Int32 → Option (Int32 × Hs)) (g27 : Hs → Int32 → Int32 → Int32 → Int32 → Int32 → Option (Int32 × Hs)) (t : Nat) (h : Hs) (x1 : Int32) (x2 : Int32) (x3 : Int32) (x4 : Int32) (x5 : Int32) : Option (Int32 × Hs) :=
  (oI 1 8 h (some t)).bind fun v1 =>
  if v1 < x5 then (
  (some (x4 + 1)).bind fun y2 =>
  g15 h x1 x2 x3 y2)
  else (rc 1 h (some t)).bind fun a4 =>
  (fX1_leastShare N h a4 x3 x4 x5 x1).bind fun r3 =>
  (oR 1 3 r3.2 (some t)).bind fun o5 =>
  (rc 1 r3.2 (some t)).bind fun a7 =>
  (fX1_slot N r3.2 a7 x3 x4 x5).bind fun r6 =>
  (sA r6.2 o5 r6.1 r3.1).bind fun h8 =>
  (some (x5 + 1)).bind fun y9 =>
  g27 h8 x1 r3.1 x3 x4 y9
noncomputable def fX1_shareOut_b27 (N : Nat) (g4 : Hs → Int32 → Int32 → Int32 → Option (Int32 × Hs)) (g15 : Hs → Int32 → Int32 → Int32 → Int32 → Option (Int32 × Hs)) (t : Nat) (n : Nat) : Hs → Int32 → Int32 → Int32 → Int32 → Int32 → Option (Int32 × Hs) := lp (fun _ _ _ _ _ _ => none) (fun g h x1 x2 x3 x4 x5 => fX1_shareOut_b27_body N g4 g15 g t h x1 x2 x3 x4 x5) n
set_option maxHeartbeats 4000000 in
set_option maxRecDepth 20000 in
theorem wX1_shareOut_b27_body {p : Program} {l : Launch} {e : Env} {s : State} {m : MethodId} {args : Array Value} {below : List Frame} {meth : Method} {c : Code} {G : Gl} {N : Nat} {h : Hs} {r : Int32 × Hs} {g4 : Hs → Int32 → Int32 → Int32 → Option (Int32 × Hs)} {g15 : Hs → Int32 → Int32 → Int32 → Int32 → Option (Int32 × Hs)} {g27 : Hs → Int32 → Int32 → Int32 → Int32 → Int32 → Option (Int32 × Hs)} {t : Nat} {x1 : Int32} {x2 : Int32} {x3 : Int32} {x4 : Int32} {x5 : Int32} (C : Cx p s m args meth c cX1_shareOut RX1 6 G) (hret : meth.sig.returnType = (some .int)) (hg4 : ∀ (h : Hs) (x1 : Int32) (x2 : Int32) (x3 : Int32), g4 h x1 x2 x3 = some r → V p l e rmX1_shareOut s m args below meth c G 6 (MQ below (QcG G (some (.inl r.1)) r.2) args s rmX1_shareOut.cells rmX1_shareOut.slots (AG G)) h 0 0 4 [some (.inr (some t)), some (.inl x1), some (.inl x2), some (.inl x3), none, none] []) (hg15 : ∀ (h : Hs) (x1 : Int32) (x2 : Int32) (x3 : Int32) (x4 : Int32), g15 h x1 x2 x3 x4 = some r → V p l e rmX1_shareOut s m args below meth c G 6 (MQ below (QcG G (some (.inl r.1)) r.2) args s rmX1_shareOut.cells rmX1_shareOut.slots (AG G)) h 0 0 15 [some (.inr (some t)), some (.inl x1), some (.inl x2), some (.inl x3), some (.inl x4), none] []) (hg27 : ∀ (h : Hs) (x1 : Int32) (x2 : Int32) (x3 : Int32) (x4 : Int32) (x5 : Int32), g27 h x1 x2 x3 x4 x5 = some r → V p l e rmX1_shareOut s m args below meth c G 6 (MQ below (QcG G (some (.inl r.1)) r.2) args s rmX1_shareOut.cells rmX1_shareOut.slots (AG G)) h 0 0 27 [some (.inr (some t)), some (.inl x1), some (.inl x2), some (.inl x3), some (.inl x4), some (.inl x5)] []) (hf : fX1_shareOut_b27_body N g4 g15 g27 t h x1 x2 x3 x4 x5 = some r) : V p l e rmX1_shareOut s m args below meth c G 6 (MQ below (QcG G (some (.inl r.1)) r.2) args s rmX1_shareOut.cells rmX1_shareOut.slots (AG G)) h 0 0 27 [some (.inr (some t)), some (.inl x1), some (.inl x2), some (.inl x3), some (.inl x4), some (.inl x5)] [] := by
  unfold fX1_shareOut_b27_body at hf
  refine r_iload C dX1_shareOut_27 rfl ?_
  refine r_aload_n C dX1_shareOut_29 rfl ?_
  obtain ⟨v1, ev1, hf⟩ := bS hf
  refine r_getI C dX1_shareOut_30 fl_X1_118 rfl ev1 ?_
  refine r_icmp_gt (tgt := 68) C dX1_shareOut_33 (by decide) (fun hc => ?_) (fun hc => ?_)
  · have hf := ifT hf hc
    obtain ⟨y2, ey2, hf⟩ := bS hf
    refine r_iincE (v := 1) C dX1_shareOut_68 rfl (by decide) (by decide) ey2 ?_
    refine r_goto (tgt := 15) C dX1_shareOut_71 (by decide) ?_
    exact V.sub (hg15 _ _ _ _ _ hf) (LW_s rfl (LW_s rfl (LW_s rfl (LW_s rfl (LW_s rfl (LW_n (LW_e)))))))
  · have hf := ifF hf hc
    refine r_aload_n C dX1_shareOut_36 rfl ?_
    refine r_iload_n C dX1_shareOut_37 rfl ?_
    refine r_iload C dX1_shareOut_38 rfl ?_
    refine r_iload C dX1_shareOut_40 rfl ?_
    refine r_iload_n C dX1_shareOut_42 rfl ?_
    obtain ⟨a4, ea4, hf⟩ := bS hf
    obtain ⟨r3, er3, hf⟩ := bS hf
    refine r_invV1 (As := [.inl x3, .inl x4, .inl x5, .inl x1]) (ci := 1) C dX1_shareOut_43 mcX1_leastShare wd_766 wd_768 wp_15 rfl rfl (by decide) ⟨by decide, by decide⟩ ⟨by decide, by decide⟩ rfl (Nat.le_of_ble_eq_true rfl) ea4 (kX1_leastShare l G er3) ?_
    refine r_istore_n C dX1_shareOut_46 (by decide) ?_
    refine r_aload_n C dX1_shareOut_47 rfl ?_
    obtain ⟨o5, eo5, hf⟩ := bS hf
    refine r_getR C dX1_shareOut_48 fl_X1_18 rfl eo5 ?_
    refine r_aload_n C dX1_shareOut_51 rfl ?_
    refine r_iload_n C dX1_shareOut_52 rfl ?_
    refine r_iload C dX1_shareOut_53 rfl ?_
    refine r_iload C dX1_shareOut_55 rfl ?_
    obtain ⟨a7, ea7, hf⟩ := bS hf
    obtain ⟨r6, er6, hf⟩ := bS hf
    refine r_invV1 (As := [.inl x3, .inl x4, .inl x5]) (ci := 1) C dX1_shareOut_57 mcX1_slot wd_770 wd_772 wp_16 rfl rfl (by decide) ⟨by decide, by decide⟩ ⟨by decide, by decide⟩ rfl (Nat.le_of_ble_eq_true rfl) ea7 (kX1_slot l G er6) ?_
    refine r_iload_n C dX1_shareOut_60 rfl ?_
    obtain ⟨h8, eh8, hf⟩ := bS hf
    refine r_iast C dX1_shareOut_61 eh8 ?_
    obtain ⟨y9, ey9, hf⟩ := bS hf
    refine r_iincE (v := 1) C dX1_shareOut_62 rfl (by decide) (by decide) ey9 ?_
    refine r_goto (tgt := 27) C dX1_shareOut_65 (by decide) ?_
    exact V.sub (hg27 _ _ _ _ _ _ hf) (LW_s rfl (LW_s rfl (LW_s rfl (LW_s rfl (LW_s rfl (LW_s rfl (LW_e)))))))
theorem wX1_shareOut_b27 {p : Program} {l : Launch} {e : Env} {s : State} {m : MethodId} {args : Array Value} {below : List Frame} {meth : Method} {c : Code} {G : Gl} {N : Nat} {r : Int32 × Hs} {g4 : Hs → Int32 → Int32 → Int32 → Option (Int32 × Hs)} {g15 : Hs → Int32 → Int32 → Int32 → Int32 → Option (Int32 × Hs)} {t : Nat} (C : Cx p s m args meth c cX1_shareOut RX1 6 G) (hret : meth.sig.returnType = (some .int)) (hg4 : ∀ (h : Hs) (x1 : Int32) (x2 : Int32) (x3 : Int32), g4 h x1 x2 x3 = some r → V p l e rmX1_shareOut s m args below meth c G 6 (MQ below (QcG G (some (.inl r.1)) r.2) args s rmX1_shareOut.cells rmX1_shareOut.slots (AG G)) h 0 0 4 [some (.inr (some t)), some (.inl x1), some (.inl x2), some (.inl x3), none, none] []) (hg15 : ∀ (h : Hs) (x1 : Int32) (x2 : Int32) (x3 : Int32) (x4 : Int32), g15 h x1 x2 x3 x4 = some r → V p l e rmX1_shareOut s m args below meth c G 6 (MQ below (QcG G (some (.inl r.1)) r.2) args s rmX1_shareOut.cells rmX1_shareOut.slots (AG G)) h 0 0 15 [some (.inr (some t)), some (.inl x1), some (.inl x2), some (.inl x3), some (.inl x4), none] []) : ∀ (n : Nat) (h : Hs) (x1 : Int32) (x2 : Int32) (x3 : Int32) (x4 : Int32) (x5 : Int32), fX1_shareOut_b27 N g4 g15 t n h x1 x2 x3 x4 x5 = some r → V p l e rmX1_shareOut s m args below meth c G 6 (MQ below (QcG G (some (.inl r.1)) r.2) args s rmX1_shareOut.cells rmX1_shareOut.slots (AG G)) h 0 0 27 [some (.inr (some t)), some (.inl x1), some (.inl x2), some (.inl x3), some (.inl x4), some (.inl x5)] [] := by
  intro n
  induction n with
  | zero => intro h x1 x2 x3 x4 x5 hf; exact absurd (show (none : Option (Int32 × Hs)) = some r from hf) (fun q => by cases q)
  | succ n ih => intro h x1 x2 x3 x4 x5 hf; exact wX1_shareOut_b27_body C hret hg4 hg15 ih (show fX1_shareOut_b27_body N g4 g15 (fX1_shareOut_b27 N g4 g15 t n) t h x1 x2 x3 x4 x5 = some r from hf)
noncomputable def fX1_shareOut_b15_body (N : Nat) (g4 : Hs → Int32 → Int32 → Int32 → Option (Int32 × Hs)) (g15 : Hs → Int32 → Int32 → Int32 → Int32 → Option (Int32 × Hs)) (t : Nat) (h : Hs) (x1 : Int32) (x2 : Int32) (x3 : Int32) (x4 : Int32) : Option (Int32 × Hs) :=
  (oI 1 7 h (some t)).bind fun v1 =>
  if v1 < x4 then (
  (some (x3 + 1)).bind fun y2 =>
  g4 h x1 x2 y2)
  else fX1_shareOut_b27 N g4 g15 t N h x1 x2 x3 x4 0
noncomputable def fX1_shareOut_b15 (N : Nat) (g4 : Hs → Int32 → Int32 → Int32 → Option (Int32 × Hs)) (t : Nat) (n : Nat) : Hs → Int32 → Int32 → Int32 → Int32 → Option (Int32 × Hs) := lp (fun _ _ _ _ _ => none) (fun g h x1 x2 x3 x4 => fX1_shareOut_b15_body N g4 g t h x1 x2 x3 x4) n
set_option maxHeartbeats 4000000 in
set_option maxRecDepth 20000 in
theorem wX1_shareOut_b15_body {p : Program} {l : Launch} {e : Env} {s : State} {m : MethodId} {args : Array Value} {below : List Frame} {meth : Method} {c : Code} {G : Gl} {N : Nat} {h : Hs} {r : Int32 × Hs} {g4 : Hs → Int32 → Int32 → Int32 → Option (Int32 × Hs)} {g15 : Hs → Int32 → Int32 → Int32 → Int32 → Option (Int32 × Hs)} {t : Nat} {x1 : Int32} {x2 : Int32} {x3 : Int32} {x4 : Int32} (C : Cx p s m args meth c cX1_shareOut RX1 6 G) (hret : meth.sig.returnType = (some .int)) (hg4 : ∀ (h : Hs) (x1 : Int32) (x2 : Int32) (x3 : Int32), g4 h x1 x2 x3 = some r → V p l e rmX1_shareOut s m args below meth c G 6 (MQ below (QcG G (some (.inl r.1)) r.2) args s rmX1_shareOut.cells rmX1_shareOut.slots (AG G)) h 0 0 4 [some (.inr (some t)), some (.inl x1), some (.inl x2), some (.inl x3), none, none] []) (hg15 : ∀ (h : Hs) (x1 : Int32) (x2 : Int32) (x3 : Int32) (x4 : Int32), g15 h x1 x2 x3 x4 = some r → V p l e rmX1_shareOut s m args below meth c G 6 (MQ below (QcG G (some (.inl r.1)) r.2) args s rmX1_shareOut.cells rmX1_shareOut.slots (AG G)) h 0 0 15 [some (.inr (some t)), some (.inl x1), some (.inl x2), some (.inl x3), some (.inl x4), none] []) (hf : fX1_shareOut_b15_body N g4 g15 t h x1 x2 x3 x4 = some r) : V p l e rmX1_shareOut s m args below meth c G 6 (MQ below (QcG G (some (.inl r.1)) r.2) args s rmX1_shareOut.cells rmX1_shareOut.slots (AG G)) h 0 0 15 [some (.inr (some t)), some (.inl x1), some (.inl x2), some (.inl x3), some (.inl x4), none] [] := by
  unfold fX1_shareOut_b15_body at hf
  refine r_iload C dX1_shareOut_15 rfl ?_
  refine r_aload_n C dX1_shareOut_17 rfl ?_
  obtain ⟨v1, ev1, hf⟩ := bS hf
  refine r_getI C dX1_shareOut_18 fl_X1_115 rfl ev1 ?_
  refine r_icmp_gt (tgt := 74) C dX1_shareOut_21 (by decide) (fun hc => ?_) (fun hc => ?_)
  · have hf := ifT hf hc
    obtain ⟨y2, ey2, hf⟩ := bS hf
    refine r_iincE (v := 1) C dX1_shareOut_74 rfl (by decide) (by decide) ey2 ?_
    refine r_goto (tgt := 4) C dX1_shareOut_77 (by decide) ?_
    exact V.sub (hg4 _ _ _ _ hf) (LW_s rfl (LW_s rfl (LW_s rfl (LW_s rfl (LW_n (LW_n (LW_e)))))))
  · have hf := ifF hf hc
    refine r_iconst (v := 0) C dX1_shareOut_24 (by decide) ?_
    refine r_istore C dX1_shareOut_25 (by decide) ?_
    exact V.sub (wX1_shareOut_b27 C hret hg4 hg15 N _ _ _ _ _ _ hf) (LW_s rfl (LW_s rfl (LW_s rfl (LW_s rfl (LW_s rfl (LW_s rfl (LW_e)))))))
theorem wX1_shareOut_b15 {p : Program} {l : Launch} {e : Env} {s : State} {m : MethodId} {args : Array Value} {below : List Frame} {meth : Method} {c : Code} {G : Gl} {N : Nat} {r : Int32 × Hs} {g4 : Hs → Int32 → Int32 → Int32 → Option (Int32 × Hs)} {t : Nat} (C : Cx p s m args meth c cX1_shareOut RX1 6 G) (hret : meth.sig.returnType = (some .int)) (hg4 : ∀ (h : Hs) (x1 : Int32) (x2 : Int32) (x3 : Int32), g4 h x1 x2 x3 = some r → V p l e rmX1_shareOut s m args below meth c G 6 (MQ below (QcG G (some (.inl r.1)) r.2) args s rmX1_shareOut.cells rmX1_shareOut.slots (AG G)) h 0 0 4 [some (.inr (some t)), some (.inl x1), some (.inl x2), some (.inl x3), none, none] []) : ∀ (n : Nat) (h : Hs) (x1 : Int32) (x2 : Int32) (x3 : Int32) (x4 : Int32), fX1_shareOut_b15 N g4 t n h x1 x2 x3 x4 = some r → V p l e rmX1_shareOut s m args below meth c G 6 (MQ below (QcG G (some (.inl r.1)) r.2) args s rmX1_shareOut.cells rmX1_shareOut.slots (AG G)) h 0 0 15 [some (.inr (some t)), some (.inl x1), some (.inl x2), some (.inl x3), some (.inl x4), none] [] := by
  intro n
  induction n with
  | zero => intro h x1 x2 x3 x4 hf; exact absurd (show (none : Option (Int32 × Hs)) = some r from hf) (fun q => by cases q)
  | succ n ih => intro h x1 x2 x3 x4 hf; exact wX1_shareOut_b15_body C hret hg4 ih (show fX1_shareOut_b15_body N g4 (fX1_shareOut_b15 N g4 t n) t h x1 x2 x3 x4 = some r from hf)
noncomputable def fX1_shareOut_b4_body (N : Nat)  (g4 : Hs → Int32 → Int32 → Int32 → Option (Int32 × Hs)) (t : Nat) (h : Hs) (x1 : Int32) (x2 : Int32) (x3 : Int32) : Option (Int32 × Hs) :=
  (oI 1 6 h (some t)).bind fun v1 =>
  if v1 < x3 then (
  some (x2, h))
  else fX1_shareOut_b15 N g4 t N h x1 x2 x3 0
noncomputable def fX1_shareOut_b4 (N : Nat)  (t : Nat) (n : Nat) : Hs → Int32 → Int32 → Int32 → Option (Int32 × Hs) := lp (fun _ _ _ _ => none) (fun g h x1 x2 x3 => fX1_shareOut_b4_body N  g t h x1 x2 x3) n
set_option maxHeartbeats 4000000 in
set_option maxRecDepth 20000 in
theorem wX1_shareOut_b4_body {p : Program} {l : Launch} {e : Env} {s : State} {m : MethodId} {args : Array Value} {below : List Frame} {meth : Method} {c : Code} {G : Gl} {N : Nat} {h : Hs} {r : Int32 × Hs}  {g4 : Hs → Int32 → Int32 → Int32 → Option (Int32 × Hs)} {t : Nat} {x1 : Int32} {x2 : Int32} {x3 : Int32} (C : Cx p s m args meth c cX1_shareOut RX1 6 G) (hret : meth.sig.returnType = (some .int))  (hg4 : ∀ (h : Hs) (x1 : Int32) (x2 : Int32) (x3 : Int32), g4 h x1 x2 x3 = some r → V p l e rmX1_shareOut s m args below meth c G 6 (MQ below (QcG G (some (.inl r.1)) r.2) args s rmX1_shareOut.cells rmX1_shareOut.slots (AG G)) h 0 0 4 [some (.inr (some t)), some (.inl x1), some (.inl x2), some (.inl x3), none, none] []) (hf : fX1_shareOut_b4_body N  g4 t h x1 x2 x3 = some r) : V p l e rmX1_shareOut s m args below meth c G 6 (MQ below (QcG G (some (.inl r.1)) r.2) args s rmX1_shareOut.cells rmX1_shareOut.slots (AG G)) h 0 0 4 [some (.inr (some t)), some (.inl x1), some (.inl x2), some (.inl x3), none, none] [] := by
  unfold fX1_shareOut_b4_body at hf
  refine r_iload_n C dX1_shareOut_4 rfl ?_
  refine r_aload_n C dX1_shareOut_5 rfl ?_
  obtain ⟨v1, ev1, hf⟩ := bS hf
  refine r_getI C dX1_shareOut_6 fl_X1_112 rfl ev1 ?_
  refine r_icmp_gt (tgt := 80) C dX1_shareOut_9 (by decide) (fun hc => ?_) (fun hc => ?_)
  · have hf := ifT hf hc
    refine r_iload_n C dX1_shareOut_80 rfl ?_
    exact r_iretF C dX1_shareOut_81 hret hf (by decide) (by decide)
  · have hf := ifF hf hc
    refine r_iconst (v := 0) C dX1_shareOut_12 (by decide) ?_
    refine r_istore C dX1_shareOut_13 (by decide) ?_
    exact V.sub (wX1_shareOut_b15 C hret hg4 N _ _ _ _ _ hf) (LW_s rfl (LW_s rfl (LW_s rfl (LW_s rfl (LW_s rfl (LW_n (LW_e)))))))
theorem wX1_shareOut_b4 {p : Program} {l : Launch} {e : Env} {s : State} {m : MethodId} {args : Array Value} {below : List Frame} {meth : Method} {c : Code} {G : Gl} {N : Nat} {r : Int32 × Hs}  {t : Nat} (C : Cx p s m args meth c cX1_shareOut RX1 6 G) (hret : meth.sig.returnType = (some .int))  : ∀ (n : Nat) (h : Hs) (x1 : Int32) (x2 : Int32) (x3 : Int32), fX1_shareOut_b4 N  t n h x1 x2 x3 = some r → V p l e rmX1_shareOut s m args below meth c G 6 (MQ below (QcG G (some (.inl r.1)) r.2) args s rmX1_shareOut.cells rmX1_shareOut.slots (AG G)) h 0 0 4 [some (.inr (some t)), some (.inl x1), some (.inl x2), some (.inl x3), none, none] [] := by
  intro n
  induction n with
  | zero => intro h x1 x2 x3 hf; exact absurd (show (none : Option (Int32 × Hs)) = some r from hf) (fun q => by cases q)
  | succ n ih => intro h x1 x2 x3 hf; exact wX1_shareOut_b4_body C hret  ih (show fX1_shareOut_b4_body N  (fX1_shareOut_b4 N  t n) t h x1 x2 x3 = some r from hf)
noncomputable def fX1_shareOut (N : Nat) (h : Hs) (t : Nat) (p1 : Int32) : Option (Int32 × Hs) :=
  fX1_shareOut_b4 N t N h p1 p1 0
set_option maxHeartbeats 4000000 in
set_option maxRecDepth 20000 in
theorem kX1_shareOut (l : Launch) (G : Gl) {N : Nat} {h : Hs} {t : Nat} {p1 : Int32} {r : Int32 × Hs} (hf : fX1_shareOut N h t p1 = some r) : CT l G yX1_shareOut cX1_shareOut 6 (some .int) rmX1_shareOut [.inr (some t), .inl p1] h (some (.inl r.1)) r.2 := by
  refine mk_CT (by decide) (Nat.le_of_ble_eq_true rfl) ?_
  intro p e s m args below meth c C hret hin
  unfold fX1_shareOut at hf
  refine r_iload_n C dX1_shareOut_0 rfl ?_
  refine r_istore_n C dX1_shareOut_1 (by decide) ?_
  refine r_iconst (v := 0) C dX1_shareOut_2 (by decide) ?_
  refine r_istore_n C dX1_shareOut_3 (by decide) ?_
  exact V.sub (wX1_shareOut_b4 C hret N _ _ _ _ hf) (LW_s rfl (LW_s rfl (LW_s rfl (LW_s rfl (LW_n (LW_n (LW_e)))))))
