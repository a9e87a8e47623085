theorem dgX12_place_0 : (decode cX12_place 0 = .ok (.iconst 0, 1)) ∧ (decode cX12_place 1 = .ok (.istore_n 2, 1)) ∧ (decode cX12_place 2 = .ok (.iload_n 2, 1)) ∧ (decode cX12_place 3 = .ok (.aload_n 0, 1)) ∧ (decode cX12_place 4 = .ok (.getfield 153, 3)) ∧ (decode cX12_place 7 = .ok (.if_icmp .ge 86, 3)) ∧ (decode cX12_place 10 = .ok (.aload_n 0, 1)) ∧ (decode cX12_place 11 = .ok (.getfield 46, 3)) ∧ (decode cX12_place 14 = .ok (.iload_n 2, 1)) ∧ (decode cX12_place 15 = .ok (.iaload, 1)) ∧ (decode cX12_place 16 = .ok (.ifCond .ge 6, 3)) ∧ (decode cX12_place 19 = .ok (.goto 68, 3)) ∧ True := dkW [(0, .iconst 0, 1), (1, .istore_n 2, 1), (2, .iload_n 2, 1), (3, .aload_n 0, 1), (4, .getfield 153, 3), (7, .if_icmp .ge 86, 3), (10, .aload_n 0, 1), (11, .getfield 46, 3), (14, .iload_n 2, 1), (15, .iaload, 1), (16, .ifCond .ge 6, 3), (19, .goto 68, 3)] 0 (by decide +kernel)
theorem dX12_place_0 : decode cX12_place 0 = .ok (.iconst 0, 1) := dgX12_place_0.1
theorem dX12_place_1 : decode cX12_place 1 = .ok (.istore_n 2, 1) := dgX12_place_0.2.1
theorem dX12_place_2 : decode cX12_place 2 = .ok (.iload_n 2, 1) := dgX12_place_0.2.2.1
theorem dX12_place_3 : decode cX12_place 3 = .ok (.aload_n 0, 1) := dgX12_place_0.2.2.2.1
theorem dX12_place_4 : decode cX12_place 4 = .ok (.getfield 153, 3) := dgX12_place_0.2.2.2.2.1
theorem dX12_place_7 : decode cX12_place 7 = .ok (.if_icmp .ge 86, 3) := dgX12_place_0.2.2.2.2.2.1
theorem dX12_place_10 : decode cX12_place 10 = .ok (.aload_n 0, 1) := dgX12_place_0.2.2.2.2.2.2.1
theorem dX12_place_11 : decode cX12_place 11 = .ok (.getfield 46, 3) := dgX12_place_0.2.2.2.2.2.2.2.1
theorem dX12_place_14 : decode cX12_place 14 = .ok (.iload_n 2, 1) := dgX12_place_0.2.2.2.2.2.2.2.2.1
theorem dX12_place_15 : decode cX12_place 15 = .ok (.iaload, 1) := dgX12_place_0.2.2.2.2.2.2.2.2.2.1
theorem dX12_place_16 : decode cX12_place 16 = .ok (.ifCond .ge 6, 3) := dgX12_place_0.2.2.2.2.2.2.2.2.2.2.1
theorem dX12_place_19 : decode cX12_place 19 = .ok (.goto 68, 3) := dgX12_place_0.2.2.2.2.2.2.2.2.2.2.2.1
theorem dgX12_place_22 : (decode cX12_place 22 = .ok (.aload_n 0, 1)) ∧ (decode cX12_place 23 = .ok (.getfield 49, 3)) ∧ (decode cX12_place 26 = .ok (.iload_n 2, 1)) ∧ (decode cX12_place 27 = .ok (.dup2, 1)) ∧ (decode cX12_place 28 = .ok (.iaload, 1)) ∧ (decode cX12_place 29 = .ok (.iload_n 1, 1)) ∧ (decode cX12_place 30 = .ok (.aload_n 0, 1)) ∧ (decode cX12_place 31 = .ok (.getfield 31, 3)) ∧ (decode cX12_place 34 = .ok (.aload_n 0, 1)) ∧ (decode cX12_place 35 = .ok (.getfield 46, 3)) ∧ (decode cX12_place 38 = .ok (.iload_n 2, 1)) ∧ (decode cX12_place 39 = .ok (.iaload, 1)) ∧ True := dkW [(22, .aload_n 0, 1), (23, .getfield 49, 3), (26, .iload_n 2, 1), (27, .dup2, 1), (28, .iaload, 1), (29, .iload_n 1, 1), (30, .aload_n 0, 1), (31, .getfield 31, 3), (34, .aload_n 0, 1), (35, .getfield 46, 3), (38, .iload_n 2, 1), (39, .iaload, 1)] 22 (by decide +kernel)
theorem dX12_place_22 : decode cX12_place 22 = .ok (.aload_n 0, 1) := dgX12_place_22.1
theorem dX12_place_23 : decode cX12_place 23 = .ok (.getfield 49, 3) := dgX12_place_22.2.1
theorem dX12_place_26 : decode cX12_place 26 = .ok (.iload_n 2, 1) := dgX12_place_22.2.2.1
theorem dX12_place_27 : decode cX12_place 27 = .ok (.dup2, 1) := dgX12_place_22.2.2.2.1
theorem dX12_place_28 : decode cX12_place 28 = .ok (.iaload, 1) := dgX12_place_22.2.2.2.2.1
theorem dX12_place_29 : decode cX12_place 29 = .ok (.iload_n 1, 1) := dgX12_place_22.2.2.2.2.2.1
theorem dX12_place_30 : decode cX12_place 30 = .ok (.aload_n 0, 1) := dgX12_place_22.2.2.2.2.2.2.1
theorem dX12_place_31 : decode cX12_place 31 = .ok (.getfield 31, 3) := dgX12_place_22.2.2.2.2.2.2.2.1
theorem dX12_place_34 : decode cX12_place 34 = .ok (.aload_n 0, 1) := dgX12_place_22.2.2.2.2.2.2.2.2.1
theorem dX12_place_35 : decode cX12_place 35 = .ok (.getfield 46, 3) := dgX12_place_22.2.2.2.2.2.2.2.2.2.1
theorem dX12_place_38 : decode cX12_place 38 = .ok (.iload_n 2, 1) := dgX12_place_22.2.2.2.2.2.2.2.2.2.2.1
theorem dX12_place_39 : decode cX12_place 39 = .ok (.iaload, 1) := dgX12_place_22.2.2.2.2.2.2.2.2.2.2.2.1
theorem dgX12_place_40 : (decode cX12_place 40 = .ok (.iaload, 1)) ∧ (decode cX12_place 41 = .ok (.imul, 1)) ∧ (decode cX12_place 42 = .ok (.iadd, 1)) ∧ (decode cX12_place 43 = .ok (.iastore, 1)) ∧ (decode cX12_place 44 = .ok (.aload_n 0, 1)) ∧ (decode cX12_place 45 = .ok (.getfield 34, 3)) ∧ (decode cX12_place 48 = .ok (.iload_n 2, 1)) ∧ (decode cX12_place 49 = .ok (.iaload, 1)) ∧ (decode cX12_place 50 = .ok (.istore_n 3, 1)) ∧ (decode cX12_place 51 = .ok (.aload_n 0, 1)) ∧ (decode cX12_place 52 = .ok (.getfield 19, 3)) ∧ (decode cX12_place 55 = .ok (.iload_n 3, 1)) ∧ True := dkW [(40, .iaload, 1), (41, .imul, 1), (42, .iadd, 1), (43, .iastore, 1), (44, .aload_n 0, 1), (45, .getfield 34, 3), (48, .iload_n 2, 1), (49, .iaload, 1), (50, .istore_n 3, 1), (51, .aload_n 0, 1), (52, .getfield 19, 3), (55, .iload_n 3, 1)] 40 (by decide +kernel)
theorem dX12_place_40 : decode cX12_place 40 = .ok (.iaload, 1) := dgX12_place_40.1
theorem dX12_place_41 : decode cX12_place 41 = .ok (.imul, 1) := dgX12_place_40.2.1
theorem dX12_place_42 : decode cX12_place 42 = .ok (.iadd, 1) := dgX12_place_40.2.2.1
theorem dX12_place_43 : decode cX12_place 43 = .ok (.iastore, 1) := dgX12_place_40.2.2.2.1
theorem dX12_place_44 : decode cX12_place 44 = .ok (.aload_n 0, 1) := dgX12_place_40.2.2.2.2.1
theorem dX12_place_45 : decode cX12_place 45 = .ok (.getfield 34, 3) := dgX12_place_40.2.2.2.2.2.1
theorem dX12_place_48 : decode cX12_place 48 = .ok (.iload_n 2, 1) := dgX12_place_40.2.2.2.2.2.2.1
theorem dX12_place_49 : decode cX12_place 49 = .ok (.iaload, 1) := dgX12_place_40.2.2.2.2.2.2.2.1
theorem dX12_place_50 : decode cX12_place 50 = .ok (.istore_n 3, 1) := dgX12_place_40.2.2.2.2.2.2.2.2.1
theorem dX12_place_51 : decode cX12_place 51 = .ok (.aload_n 0, 1) := dgX12_place_40.2.2.2.2.2.2.2.2.2.1
theorem dX12_place_52 : decode cX12_place 52 = .ok (.getfield 19, 3) := dgX12_place_40.2.2.2.2.2.2.2.2.2.2.1
theorem dX12_place_55 : decode cX12_place 55 = .ok (.iload_n 3, 1) := dgX12_place_40.2.2.2.2.2.2.2.2.2.2.2.1
theorem dgX12_place_56 : (decode cX12_place 56 = .ok (.aload_n 0, 1)) ∧ (decode cX12_place 57 = .ok (.getfield 28, 3)) ∧ (decode cX12_place 60 = .ok (.iload_n 3, 1)) ∧ (decode cX12_place 61 = .ok (.iaload, 1)) ∧ (decode cX12_place 62 = .ok (.aload_n 0, 1)) ∧ (decode cX12_place 63 = .ok (.getfield 40, 3)) ∧ (decode cX12_place 66 = .ok (.iload_n 2, 1)) ∧ (decode cX12_place 67 = .ok (.iaload, 1)) ∧ (decode cX12_place 68 = .ok (.aload_n 0, 1)) ∧ (decode cX12_place 69 = .ok (.getfield 49, 3)) ∧ (decode cX12_place 72 = .ok (.iload_n 2, 1)) ∧ (decode cX12_place 73 = .ok (.iaload, 1)) ∧ True := dkW [(56, .aload_n 0, 1), (57, .getfield 28, 3), (60, .iload_n 3, 1), (61, .iaload, 1), (62, .aload_n 0, 1), (63, .getfield 40, 3), (66, .iload_n 2, 1), (67, .iaload, 1), (68, .aload_n 0, 1), (69, .getfield 49, 3), (72, .iload_n 2, 1), (73, .iaload, 1)] 56 (by decide +kernel)
theorem dX12_place_56 : decode cX12_place 56 = .ok (.aload_n 0, 1) := dgX12_place_56.1
theorem dX12_place_57 : decode cX12_place 57 = .ok (.getfield 28, 3) := dgX12_place_56.2.1
theorem dX12_place_60 : decode cX12_place 60 = .ok (.iload_n 3, 1) := dgX12_place_56.2.2.1
theorem dX12_place_61 : decode cX12_place 61 = .ok (.iaload, 1) := dgX12_place_56.2.2.2.1
theorem dX12_place_62 : decode cX12_place 62 = .ok (.aload_n 0, 1) := dgX12_place_56.2.2.2.2.1
theorem dX12_place_63 : decode cX12_place 63 = .ok (.getfield 40, 3) := dgX12_place_56.2.2.2.2.2.1
theorem dX12_place_66 : decode cX12_place 66 = .ok (.iload_n 2, 1) := dgX12_place_56.2.2.2.2.2.2.1
theorem dX12_place_67 : decode cX12_place 67 = .ok (.iaload, 1) := dgX12_place_56.2.2.2.2.2.2.2.1
theorem dX12_place_68 : decode cX12_place 68 = .ok (.aload_n 0, 1) := dgX12_place_56.2.2.2.2.2.2.2.2.1
theorem dX12_place_69 : decode cX12_place 69 = .ok (.getfield 49, 3) := dgX12_place_56.2.2.2.2.2.2.2.2.2.1
theorem dX12_place_72 : decode cX12_place 72 = .ok (.iload_n 2, 1) := dgX12_place_56.2.2.2.2.2.2.2.2.2.2.1
theorem dX12_place_73 : decode cX12_place 73 = .ok (.iaload, 1) := dgX12_place_56.2.2.2.2.2.2.2.2.2.2.2.1
theorem dgX12_place_74 : (decode cX12_place 74 = .ok (.bipush 100, 2)) ∧ (decode cX12_place 76 = .ok (.aload_n 0, 1)) ∧ (decode cX12_place 77 = .ok (.getfield 37, 3)) ∧ (decode cX12_place 80 = .ok (.iload_n 2, 1)) ∧ (decode cX12_place 81 = .ok (.iaload, 1)) ∧ (decode cX12_place 82 = .ok (.imul, 1)) ∧ (decode cX12_place 83 = .ok (.idiv, 1)) ∧ (decode cX12_place 84 = .ok (.imul, 1)) ∧ (decode cX12_place 85 = .ok (.iadd, 1)) ∧ (decode cX12_place 86 = .ok (.iastore, 1)) ∧ (decode cX12_place 87 = .ok (.iinc 2 1, 3)) ∧ (decode cX12_place 90 = .ok (.goto (-88), 3)) ∧ True := dkW [(74, .bipush 100, 2), (76, .aload_n 0, 1), (77, .getfield 37, 3), (80, .iload_n 2, 1), (81, .iaload, 1), (82, .imul, 1), (83, .idiv, 1), (84, .imul, 1), (85, .iadd, 1), (86, .iastore, 1), (87, .iinc 2 1, 3), (90, .goto (-88), 3)] 74 (by decide +kernel)
theorem dX12_place_74 : decode cX12_place 74 = .ok (.bipush 100, 2) := dgX12_place_74.1
theorem dX12_place_76 : decode cX12_place 76 = .ok (.aload_n 0, 1) := dgX12_place_74.2.1
theorem dX12_place_77 : decode cX12_place 77 = .ok (.getfield 37, 3) := dgX12_place_74.2.2.1
theorem dX12_place_80 : decode cX12_place 80 = .ok (.iload_n 2, 1) := dgX12_place_74.2.2.2.1
theorem dX12_place_81 : decode cX12_place 81 = .ok (.iaload, 1) := dgX12_place_74.2.2.2.2.1
theorem dX12_place_82 : decode cX12_place 82 = .ok (.imul, 1) := dgX12_place_74.2.2.2.2.2.1
theorem dX12_place_83 : decode cX12_place 83 = .ok (.idiv, 1) := dgX12_place_74.2.2.2.2.2.2.1
theorem dX12_place_84 : decode cX12_place 84 = .ok (.imul, 1) := dgX12_place_74.2.2.2.2.2.2.2.1
theorem dX12_place_85 : decode cX12_place 85 = .ok (.iadd, 1) := dgX12_place_74.2.2.2.2.2.2.2.2.1
theorem dX12_place_86 : decode cX12_place 86 = .ok (.iastore, 1) := dgX12_place_74.2.2.2.2.2.2.2.2.2.1
theorem dX12_place_87 : decode cX12_place 87 = .ok (.iinc 2 1, 3) := dgX12_place_74.2.2.2.2.2.2.2.2.2.2.1
theorem dX12_place_90 : decode cX12_place 90 = .ok (.goto (-88), 3) := dgX12_place_74.2.2.2.2.2.2.2.2.2.2.2.1
theorem dgX12_place_93 : (decode cX12_place 93 = .ok (.return_, 1)) ∧ True := dkW [(93, .return_, 1)] 93 (by decide +kernel)
theorem dX12_place_93 : decode cX12_place 93 = .ok (.return_, 1) := dgX12_place_93.1
abbrev rmX12_place : Room := { frames := 0, cells := 0, slots := 0, locals := 0 }
noncomputable def fX12_place_b87 (N : Nat) (g2 : Hs → Int32 → Int32 → Option (Hs)) (t : Nat) (h : Hs) (x1 : Int32) (x2 : Int32) : Option (Hs) :=
  (some (x2 + 1)).bind fun y1 =>
  g2 h x1 y1
set_option maxHeartbeats 4000000 in
set_option maxRecDepth 20000 in
theorem wX12_place_b87 {p : Program} {l : Launch} {e : Env} {s : State} {m : MethodId} {args : Array Value} {below : List Frame} {meth : Method} {c : Code} {G : Gl} {N : Nat} {h : Hs} {r : Hs} {g2 : Hs → Int32 → Int32 → Option (Hs)} {t : Nat} {x1 : Int32} {x2 : Int32} (C : Cx p s m args meth c cX12_place RX12 4 G) (hret : meth.sig.returnType = none) (hg2 : ∀ (h : Hs) (x1 : Int32) (x2 : Int32), g2 h x1 x2 = some r → V p l e rmX12_place s m args below meth c G 4 (MQ below (QcG G (none) r) args s rmX12_place.cells rmX12_place.slots (AG G)) h 0 0 2 [some (.inr (some t)), some (.inl x1), some (.inl x2), none] []) (hf : fX12_place_b87 N g2 t h x1 x2 = some r) : V p l e rmX12_place s m args below meth c G 4 (MQ below (QcG G (none) r) args s rmX12_place.cells rmX12_place.slots (AG G)) h 0 0 87 [some (.inr (some t)), some (.inl x1), some (.inl x2), none] [] := by
  unfold fX12_place_b87 at hf
  obtain ⟨y1, ey1, hf⟩ := bS hf
  refine r_iincE (v := 1) C dX12_place_87 rfl (by decide) (by decide) ey1 ?_
  refine r_goto (tgt := 2) C dX12_place_90 (by decide) ?_
  exact V.sub (hg2 _ _ _ hf) (LW_s rfl (LW_s rfl (LW_s rfl (LW_n (LW_e)))))
noncomputable def fX12_place_b2_body (N : Nat)  (g2 : Hs → Int32 → Int32 → Option (Hs)) (t : Nat) (h : Hs) (x1 : Int32) (x2 : Int32) : Option (Hs) :=
  (oI 12 11 h (some t)).bind fun v1 =>
  if v1 ≤ x2 then (
  some h)
  else (oR 12 16 h (some t)).bind fun o2 =>
  (lA 20 h o2 x2).bind fun v3 =>
  if 0 ≤ v3 then (
  (oR 12 17 h (some t)).bind fun o4 =>
  (lA 20 h o4 x2).bind fun v5 =>
  (oR 12 10 h (some t)).bind fun o6 =>
  (oR 12 16 h (some t)).bind fun o7 =>
  (lA 20 h o7 x2).bind fun v8 =>
  (lA 20 h o6 v8).bind fun v9 =>
  (sA h o4 x2 (v5 + (x1 * v9))).bind fun h10 =>
  (oR 12 12 h10 (some t)).bind fun o11 =>
  (lA 20 h10 o11 x2).bind fun v12 =>
  (oR 12 5 h10 (some t)).bind fun o13 =>
  (oR 12 8 h10 (some t)).bind fun o14 =>
  (lA 20 h10 o14 v12).bind fun v15 =>
  (oR 12 14 h10 (some t)).bind fun o16 =>
  (lA 20 h10 o16 x2).bind fun v17 =>
  (oR 12 17 h10 (some t)).bind fun o18 =>
  (lA 20 h10 o18 x2).bind fun v19 =>
  (oR 12 13 h10 (some t)).bind fun o20 =>
  (lA 20 h10 o20 x2).bind fun v21 =>
  (dv v19 (100 * v21)).bind fun v22 =>
  (sA h10 o13 v12 (v15 + (v17 * v22))).bind fun h23 =>
  fX12_place_b87 N g2 t h23 x1 x2)
  else fX12_place_b87 N g2 t h x1 x2
noncomputable def fX12_place_b2 (N : Nat)  (t : Nat) (n : Nat) : Hs → Int32 → Int32 → Option (Hs) := lp (fun _ _ _ => none) (fun g h x1 x2 => fX12_place_b2_body N  g t h x1 x2) n
set_option maxHeartbeats 4000000 in
set_option maxRecDepth 20000 in
theorem wX12_place_b2_body {p : Program} {l : Launch} {e : Env} {s : State} {m : MethodId} {args : Array Value} {below : List Frame} {meth : Method} {c : Code} {G : Gl} {N : Nat} {h : Hs} {r : Hs}  {g2 : Hs → Int32 → Int32 → Option (Hs)} {t : Nat} {x1 : Int32} {x2 : Int32} (C : Cx p s m args meth c cX12_place RX12 4 G) (hret : meth.sig.returnType = none)  (hg2 : ∀ (h : Hs) (x1 : Int32) (x2 : Int32), g2 h x1 x2 = some r → V p l e rmX12_place s m args below meth c G 4 (MQ below (QcG G (none) r) args s rmX12_place.cells rmX12_place.slots (AG G)) h 0 0 2 [some (.inr (some t)), some (.inl x1), some (.inl x2), none] []) (hf : fX12_place_b2_body N  g2 t h x1 x2 = some r) : V p l e rmX12_place s m args below meth c G 4 (MQ below (QcG G (none) r) args s rmX12_place.cells rmX12_place.slots (AG G)) h 0 0 2 [some (.inr (some t)), some (.inl x1), some (.inl x2), none] [] := by
  unfold fX12_place_b2_body at hf
  refine r_iload_n C dX12_place_2 rfl ?_
  refine r_aload_n C dX12_place_3 rfl ?_
  obtain ⟨v1, ev1, hf⟩ := bS hf
  refine r_getI C dX12_place_4 fl_X12_153 rfl ev1 ?_
  refine r_icmp_ge (tgt := 93) C dX12_place_7 (by decide) (fun hc => ?_) (fun hc => ?_)
  · have hf := ifT hf hc
    exact r_vretF C dX12_place_93 hret hf (by decide) (by decide)
  · have hf := ifF hf hc
    refine r_aload_n C dX12_place_10 rfl ?_
    obtain ⟨o2, eo2, hf⟩ := bS hf
    refine r_getR C dX12_place_11 fl_X12_46 rfl eo2 ?_
    refine r_iload_n C dX12_place_14 rfl ?_
    obtain ⟨v3, ev3, hf⟩ := bS hf
    refine r_iald C dX12_place_15 ev3 ?_
    refine r_if_ge (tgt := 22) C dX12_place_16 (by decide) (fun hc => ?_) (fun hc => ?_)
    · have hf := ifT hf hc
      refine r_aload_n C dX12_place_22 rfl ?_
      obtain ⟨o4, eo4, hf⟩ := bS hf
      refine r_getR C dX12_place_23 fl_X12_49 rfl eo4 ?_
      refine r_iload_n C dX12_place_26 rfl ?_
      refine r_dup2 C dX12_place_27 ?_
      obtain ⟨v5, ev5, hf⟩ := bS hf
      refine r_iald C dX12_place_28 ev5 ?_
      refine r_iload_n C dX12_place_29 rfl ?_
      refine r_aload_n C dX12_place_30 rfl ?_
      obtain ⟨o6, eo6, hf⟩ := bS hf
      refine r_getR C dX12_place_31 fl_X12_31 rfl eo6 ?_
      refine r_aload_n C dX12_place_34 rfl ?_
      obtain ⟨o7, eo7, hf⟩ := bS hf
      refine r_getR C dX12_place_35 fl_X12_46 rfl eo7 ?_
      refine r_iload_n C dX12_place_38 rfl ?_
      obtain ⟨v8, ev8, hf⟩ := bS hf
      refine r_iald C dX12_place_39 ev8 ?_
      obtain ⟨v9, ev9, hf⟩ := bS hf
      refine r_iald C dX12_place_40 ev9 ?_
      refine r_imul C dX12_place_41 ?_
      refine r_iadd C dX12_place_42 ?_
      obtain ⟨h10, eh10, hf⟩ := bS hf
      refine r_iast C dX12_place_43 eh10 ?_
      refine r_aload_n C dX12_place_44 rfl ?_
      obtain ⟨o11, eo11, hf⟩ := bS hf
      refine r_getR C dX12_place_45 fl_X12_34 rfl eo11 ?_
      refine r_iload_n C dX12_place_48 rfl ?_
      obtain ⟨v12, ev12, hf⟩ := bS hf
      refine r_iald C dX12_place_49 ev12 ?_
      refine r_istore_n C dX12_place_50 (by decide) ?_
      refine r_aload_n C dX12_place_51 rfl ?_
      obtain ⟨o13, eo13, hf⟩ := bS hf
      refine r_getR C dX12_place_52 fl_X12_19 rfl eo13 ?_
      refine r_iload_n C dX12_place_55 rfl ?_
      refine r_aload_n C dX12_place_56 rfl ?_
      obtain ⟨o14, eo14, hf⟩ := bS hf
      refine r_getR C dX12_place_57 fl_X12_28 rfl eo14 ?_
      refine r_iload_n C dX12_place_60 rfl ?_
      obtain ⟨v15, ev15, hf⟩ := bS hf
      refine r_iald C dX12_place_61 ev15 ?_
      refine r_aload_n C dX12_place_62 rfl ?_
      obtain ⟨o16, eo16, hf⟩ := bS hf
      refine r_getR C dX12_place_63 fl_X12_40 rfl eo16 ?_
      refine r_iload_n C dX12_place_66 rfl ?_
      obtain ⟨v17, ev17, hf⟩ := bS hf
      refine r_iald C dX12_place_67 ev17 ?_
      refine r_aload_n C dX12_place_68 rfl ?_
      obtain ⟨o18, eo18, hf⟩ := bS hf
      refine r_getR C dX12_place_69 fl_X12_49 rfl eo18 ?_
      refine r_iload_n C dX12_place_72 rfl ?_
      obtain ⟨v19, ev19, hf⟩ := bS hf
      refine r_iald C dX12_place_73 ev19 ?_
      refine r_bipush (v := 100) C dX12_place_74 (by decide) ?_
      refine r_aload_n C dX12_place_76 rfl ?_
      obtain ⟨o20, eo20, hf⟩ := bS hf
      refine r_getR C dX12_place_77 fl_X12_37 rfl eo20 ?_
      refine r_iload_n C dX12_place_80 rfl ?_
      obtain ⟨v21, ev21, hf⟩ := bS hf
      refine r_iald C dX12_place_81 ev21 ?_
      refine r_imul C dX12_place_82 ?_
      obtain ⟨v22, ev22, hf⟩ := bS hf
      refine r_idiv C dX12_place_83 ev22 ?_
      refine r_imul C dX12_place_84 ?_
      refine r_iadd C dX12_place_85 ?_
      obtain ⟨h23, eh23, hf⟩ := bS hf
      refine r_iast C dX12_place_86 eh23 ?_
      exact V.sub (wX12_place_b87 C hret hg2 hf) (LW_s rfl (LW_s rfl (LW_s rfl (LW_n (LW_e)))))
    · have hf := ifF hf hc
      refine r_goto (tgt := 87) C dX12_place_19 (by decide) ?_
      exact V.sub (wX12_place_b87 C hret hg2 hf) (LW_s rfl (LW_s rfl (LW_s rfl (LW_n (LW_e)))))
theorem wX12_place_b2 {p : Program} {l : Launch} {e : Env} {s : State} {m : MethodId} {args : Array Value} {below : List Frame} {meth : Method} {c : Code} {G : Gl} {N : Nat} {r : Hs}  {t : Nat} (C : Cx p s m args meth c cX12_place RX12 4 G) (hret : meth.sig.returnType = none)  : ∀ (n : Nat) (h : Hs) (x1 : Int32) (x2 : Int32), fX12_place_b2 N  t n h x1 x2 = some r → V p l e rmX12_place s m args below meth c G 4 (MQ below (QcG G (none) r) args s rmX12_place.cells rmX12_place.slots (AG G)) h 0 0 2 [some (.inr (some t)), some (.inl x1), some (.inl x2), none] [] := by
  intro n
  induction n with
  | zero => intro h x1 x2 hf; exact absurd (show (none : Option (Hs)) = some r from hf) (fun q => by cases q)
  | succ n ih => intro h x1 x2 hf; exact wX12_place_b2_body C hret  ih (show fX12_place_b2_body N  (fX12_place_b2 N  t n) t h x1 x2 = some r from hf)
noncomputable def fX12_place (N : Nat) (h : Hs) (t : Nat) (p1 : Int32) : Option (Hs) :=
  fX12_place_b2 N t N h p1 0
set_option maxHeartbeats 4000000 in
set_option maxRecDepth 20000 in
theorem kX12_place (l : Launch) (G : Gl) {N : Nat} {h : Hs} {t : Nat} {p1 : Int32} {r : Hs} (hf : fX12_place N h t p1 = some r) : CT l G yX12_place cX12_place 4 none rmX12_place [.inr (some t), .inl p1] h (none) r := by
  refine mk_CT (by decide) (Nat.le_of_ble_eq_true rfl) ?_
  intro p e s m args below meth c C hret hin
  unfold fX12_place at hf
  refine r_iconst (v := 0) C dX12_place_0 (by decide) ?_
  refine r_istore_n C dX12_place_1 (by decide) ?_
  exact V.sub (wX12_place_b2 C hret N _ _ _ hf) (LW_s rfl (LW_s rfl (LW_s rfl (LW_n (LW_e)))))

theorem dgX12_find_0 : (decode cX12_find 0 = .ok (.aload_n 0, 1)) ∧ (decode cX12_find 1 = .ok (.iconst 0, 1)) ∧ (decode cX12_find 2 = .ok (.putfield 194, 3)) ∧ (decode cX12_find 5 = .ok (.aload_n 0, 1)) ∧ True := dkW [(0, .aload_n 0, 1), (1, .iconst 0, 1), (2, .putfield 194, 3), (5, .aload_n 0, 1)] 0 (by decide +kernel)
theorem dX12_find_0 : decode cX12_find 0 = .ok (.aload_n 0, 1) := dgX12_find_0.1
theorem dX12_find_1 : decode cX12_find 1 = .ok (.iconst 0, 1) := dgX12_find_0.2.1
theorem dX12_find_2 : decode cX12_find 2 = .ok (.putfield 194, 3) := dgX12_find_0.2.2.1
theorem dX12_find_5 : decode cX12_find 5 = .ok (.aload_n 0, 1) := dgX12_find_0.2.2.2.1
theorem dX12_find_6 : decode cX12_find 6 = .ok (.iconst (-1), 1) := by decide +kernel
theorem dgX12_find_7 : (decode cX12_find 7 = .ok (.putfield 64, 3)) ∧ (decode cX12_find 10 = .ok (.aload_n 0, 1)) ∧ True := dkW [(7, .putfield 64, 3), (10, .aload_n 0, 1)] 7 (by decide +kernel)
theorem dX12_find_7 : decode cX12_find 7 = .ok (.putfield 64, 3) := dgX12_find_7.1
theorem dX12_find_10 : decode cX12_find 10 = .ok (.aload_n 0, 1) := dgX12_find_7.2.1
theorem dX12_find_11 : decode cX12_find 11 = .ok (.iconst (-1), 1) := by decide +kernel
theorem dgX12_find_12 : (decode cX12_find 12 = .ok (.putfield 67, 3)) ∧ (decode cX12_find 15 = .ok (.iconst 0, 1)) ∧ (decode cX12_find 16 = .ok (.istore_n 1, 1)) ∧ (decode cX12_find 17 = .ok (.iload_n 1, 1)) ∧ (decode cX12_find 18 = .ok (.aload_n 0, 1)) ∧ (decode cX12_find 19 = .ok (.getfield 146, 3)) ∧ (decode cX12_find 22 = .ok (.if_icmp .ge 47, 3)) ∧ (decode cX12_find 25 = .ok (.aload_n 0, 1)) ∧ (decode cX12_find 26 = .ok (.getfield 19, 3)) ∧ (decode cX12_find 29 = .ok (.iload_n 1, 1)) ∧ (decode cX12_find 30 = .ok (.iaload, 1)) ∧ (decode cX12_find 31 = .ok (.aload_n 0, 1)) ∧ True := dkW [(12, .putfield 67, 3), (15, .iconst 0, 1), (16, .istore_n 1, 1), (17, .iload_n 1, 1), (18, .aload_n 0, 1), (19, .getfield 146, 3), (22, .if_icmp .ge 47, 3), (25, .aload_n 0, 1), (26, .getfield 19, 3), (29, .iload_n 1, 1), (30, .iaload, 1), (31, .aload_n 0, 1)] 12 (by decide +kernel)
theorem dX12_find_12 : decode cX12_find 12 = .ok (.putfield 67, 3) := dgX12_find_12.1
theorem dX12_find_15 : decode cX12_find 15 = .ok (.iconst 0, 1) := dgX12_find_12.2.1
theorem dX12_find_16 : decode cX12_find 16 = .ok (.istore_n 1, 1) := dgX12_find_12.2.2.1
theorem dX12_find_17 : decode cX12_find 17 = .ok (.iload_n 1, 1) := dgX12_find_12.2.2.2.1
theorem dX12_find_18 : decode cX12_find 18 = .ok (.aload_n 0, 1) := dgX12_find_12.2.2.2.2.1
theorem dX12_find_19 : decode cX12_find 19 = .ok (.getfield 146, 3) := dgX12_find_12.2.2.2.2.2.1
theorem dX12_find_22 : decode cX12_find 22 = .ok (.if_icmp .ge 47, 3) := dgX12_find_12.2.2.2.2.2.2.1
theorem dX12_find_25 : decode cX12_find 25 = .ok (.aload_n 0, 1) := dgX12_find_12.2.2.2.2.2.2.2.1
theorem dX12_find_26 : decode cX12_find 26 = .ok (.getfield 19, 3) := dgX12_find_12.2.2.2.2.2.2.2.2.1
theorem dX12_find_29 : decode cX12_find 29 = .ok (.iload_n 1, 1) := dgX12_find_12.2.2.2.2.2.2.2.2.2.1
theorem dX12_find_30 : decode cX12_find 30 = .ok (.iaload, 1) := dgX12_find_12.2.2.2.2.2.2.2.2.2.2.1
theorem dX12_find_31 : decode cX12_find 31 = .ok (.aload_n 0, 1) := dgX12_find_12.2.2.2.2.2.2.2.2.2.2.2.1
theorem dgX12_find_32 : (decode cX12_find 32 = .ok (.getfield 22, 3)) ∧ (decode cX12_find 35 = .ok (.iload_n 1, 1)) ∧ (decode cX12_find 36 = .ok (.iaload, 1)) ∧ (decode cX12_find 37 = .ok (.aload_n 0, 1)) ∧ (decode cX12_find 38 = .ok (.getfield 25, 3)) ∧ (decode cX12_find 41 = .ok (.iload_n 1, 1)) ∧ (decode cX12_find 42 = .ok (.iaload, 1)) ∧ (decode cX12_find 43 = .ok (.invokestatic 149, 3)) ∧ (decode cX12_find 46 = .ok (.ifCond .eq 6, 3)) ∧ (decode cX12_find 49 = .ok (.goto 14, 3)) ∧ (decode cX12_find 52 = .ok (.aload_n 0, 1)) ∧ (decode cX12_find 53 = .ok (.iconst 1, 1)) ∧ True := dkW [(32, .getfield 22, 3), (35, .iload_n 1, 1), (36, .iaload, 1), (37, .aload_n 0, 1), (38, .getfield 25, 3), (41, .iload_n 1, 1), (42, .iaload, 1), (43, .invokestatic 149, 3), (46, .ifCond .eq 6, 3), (49, .goto 14, 3), (52, .aload_n 0, 1), (53, .iconst 1, 1)] 32 (by decide +kernel)
theorem dX12_find_32 : decode cX12_find 32 = .ok (.getfield 22, 3) := dgX12_find_32.1
theorem dX12_find_35 : decode cX12_find 35 = .ok (.iload_n 1, 1) := dgX12_find_32.2.1
theorem dX12_find_36 : decode cX12_find 36 = .ok (.iaload, 1) := dgX12_find_32.2.2.1
theorem dX12_find_37 : decode cX12_find 37 = .ok (.aload_n 0, 1) := dgX12_find_32.2.2.2.1
theorem dX12_find_38 : decode cX12_find 38 = .ok (.getfield 25, 3) := dgX12_find_32.2.2.2.2.1
theorem dX12_find_41 : decode cX12_find 41 = .ok (.iload_n 1, 1) := dgX12_find_32.2.2.2.2.2.1
theorem dX12_find_42 : decode cX12_find 42 = .ok (.iaload, 1) := dgX12_find_32.2.2.2.2.2.2.1
theorem dX12_find_43 : decode cX12_find 43 = .ok (.invokestatic 149, 3) := dgX12_find_32.2.2.2.2.2.2.2.1
theorem dX12_find_46 : decode cX12_find 46 = .ok (.ifCond .eq 6, 3) := dgX12_find_32.2.2.2.2.2.2.2.2.1
theorem dX12_find_49 : decode cX12_find 49 = .ok (.goto 14, 3) := dgX12_find_32.2.2.2.2.2.2.2.2.2.1
theorem dX12_find_52 : decode cX12_find 52 = .ok (.aload_n 0, 1) := dgX12_find_32.2.2.2.2.2.2.2.2.2.2.1
theorem dX12_find_53 : decode cX12_find 53 = .ok (.iconst 1, 1) := dgX12_find_32.2.2.2.2.2.2.2.2.2.2.2.1
theorem dgX12_find_54 : (decode cX12_find 54 = .ok (.putfield 194, 3)) ∧ (decode cX12_find 57 = .ok (.aload_n 0, 1)) ∧ (decode cX12_find 58 = .ok (.iload_n 1, 1)) ∧ (decode cX12_find 59 = .ok (.putfield 64, 3)) ∧ (decode cX12_find 62 = .ok (.return_, 1)) ∧ (decode cX12_find 63 = .ok (.iinc 1 1, 3)) ∧ (decode cX12_find 66 = .ok (.goto (-49), 3)) ∧ (decode cX12_find 69 = .ok (.iconst 0, 1)) ∧ (decode cX12_find 70 = .ok (.istore_n 1, 1)) ∧ (decode cX12_find 71 = .ok (.iload_n 1, 1)) ∧ (decode cX12_find 72 = .ok (.aload_n 0, 1)) ∧ (decode cX12_find 73 = .ok (.getfield 146, 3)) ∧ True := dkW [(54, .putfield 194, 3), (57, .aload_n 0, 1), (58, .iload_n 1, 1), (59, .putfield 64, 3), (62, .return_, 1), (63, .iinc 1 1, 3), (66, .goto (-49), 3), (69, .iconst 0, 1), (70, .istore_n 1, 1), (71, .iload_n 1, 1), (72, .aload_n 0, 1), (73, .getfield 146, 3)] 54 (by decide +kernel)
theorem dX12_find_54 : decode cX12_find 54 = .ok (.putfield 194, 3) := dgX12_find_54.1
theorem dX12_find_57 : decode cX12_find 57 = .ok (.aload_n 0, 1) := dgX12_find_54.2.1
theorem dX12_find_58 : decode cX12_find 58 = .ok (.iload_n 1, 1) := dgX12_find_54.2.2.1
theorem dX12_find_59 : decode cX12_find 59 = .ok (.putfield 64, 3) := dgX12_find_54.2.2.2.1
theorem dX12_find_62 : decode cX12_find 62 = .ok (.return_, 1) := dgX12_find_54.2.2.2.2.1
theorem dX12_find_63 : decode cX12_find 63 = .ok (.iinc 1 1, 3) := dgX12_find_54.2.2.2.2.2.1
theorem dX12_find_66 : decode cX12_find 66 = .ok (.goto (-49), 3) := dgX12_find_54.2.2.2.2.2.2.1
theorem dX12_find_69 : decode cX12_find 69 = .ok (.iconst 0, 1) := dgX12_find_54.2.2.2.2.2.2.2.1
theorem dX12_find_70 : decode cX12_find 70 = .ok (.istore_n 1, 1) := dgX12_find_54.2.2.2.2.2.2.2.2.1
theorem dX12_find_71 : decode cX12_find 71 = .ok (.iload_n 1, 1) := dgX12_find_54.2.2.2.2.2.2.2.2.2.1
theorem dX12_find_72 : decode cX12_find 72 = .ok (.aload_n 0, 1) := dgX12_find_54.2.2.2.2.2.2.2.2.2.2.1
theorem dX12_find_73 : decode cX12_find 73 = .ok (.getfield 146, 3) := dgX12_find_54.2.2.2.2.2.2.2.2.2.2.2.1
theorem dgX12_find_76 : (decode cX12_find 76 = .ok (.if_icmp .ge 52, 3)) ∧ (decode cX12_find 79 = .ok (.aload_n 0, 1)) ∧ (decode cX12_find 80 = .ok (.iload_n 1, 1)) ∧ (decode cX12_find 81 = .ok (.aload_n 0, 1)) ∧ (decode cX12_find 82 = .ok (.getfield 19, 3)) ∧ (decode cX12_find 85 = .ok (.iload_n 1, 1)) ∧ (decode cX12_find 86 = .ok (.iaload, 1)) ∧ (decode cX12_find 87 = .ok (.invokevirtual 197, 3)) ∧ (decode cX12_find 90 = .ok (.ifCond .ge 6, 3)) ∧ (decode cX12_find 93 = .ok (.goto 29, 3)) ∧ (decode cX12_find 96 = .ok (.aload_n 0, 1)) ∧ (decode cX12_find 97 = .ok (.iconst 2, 1)) ∧ True := dkW [(76, .if_icmp .ge 52, 3), (79, .aload_n 0, 1), (80, .iload_n 1, 1), (81, .aload_n 0, 1), (82, .getfield 19, 3), (85, .iload_n 1, 1), (86, .iaload, 1), (87, .invokevirtual 197, 3), (90, .ifCond .ge 6, 3), (93, .goto 29, 3), (96, .aload_n 0, 1), (97, .iconst 2, 1)] 76 (by decide +kernel)
theorem dX12_find_76 : decode cX12_find 76 = .ok (.if_icmp .ge 52, 3) := dgX12_find_76.1
theorem dX12_find_79 : decode cX12_find 79 = .ok (.aload_n 0, 1) := dgX12_find_76.2.1
theorem dX12_find_80 : decode cX12_find 80 = .ok (.iload_n 1, 1) := dgX12_find_76.2.2.1
theorem dX12_find_81 : decode cX12_find 81 = .ok (.aload_n 0, 1) := dgX12_find_76.2.2.2.1
theorem dX12_find_82 : decode cX12_find 82 = .ok (.getfield 19, 3) := dgX12_find_76.2.2.2.2.1
theorem dX12_find_85 : decode cX12_find 85 = .ok (.iload_n 1, 1) := dgX12_find_76.2.2.2.2.2.1
theorem dX12_find_86 : decode cX12_find 86 = .ok (.iaload, 1) := dgX12_find_76.2.2.2.2.2.2.1
theorem dX12_find_87 : decode cX12_find 87 = .ok (.invokevirtual 197, 3) := dgX12_find_76.2.2.2.2.2.2.2.1
theorem dX12_find_90 : decode cX12_find 90 = .ok (.ifCond .ge 6, 3) := dgX12_find_76.2.2.2.2.2.2.2.2.1
theorem dX12_find_93 : decode cX12_find 93 = .ok (.goto 29, 3) := dgX12_find_76.2.2.2.2.2.2.2.2.2.1
theorem dX12_find_96 : decode cX12_find 96 = .ok (.aload_n 0, 1) := dgX12_find_76.2.2.2.2.2.2.2.2.2.2.1
theorem dX12_find_97 : decode cX12_find 97 = .ok (.iconst 2, 1) := dgX12_find_76.2.2.2.2.2.2.2.2.2.2.2.1
theorem dgX12_find_98 : (decode cX12_find 98 = .ok (.putfield 194, 3)) ∧ (decode cX12_find 101 = .ok (.aload_n 0, 1)) ∧ (decode cX12_find 102 = .ok (.iload_n 1, 1)) ∧ (decode cX12_find 103 = .ok (.putfield 64, 3)) ∧ (decode cX12_find 106 = .ok (.aload_n 0, 1)) ∧ (decode cX12_find 107 = .ok (.aload_n 0, 1)) ∧ (decode cX12_find 108 = .ok (.iload_n 1, 1)) ∧ (decode cX12_find 109 = .ok (.aload_n 0, 1)) ∧ (decode cX12_find 110 = .ok (.getfield 19, 3)) ∧ (decode cX12_find 113 = .ok (.iload_n 1, 1)) ∧ (decode cX12_find 114 = .ok (.iaload, 1)) ∧ (decode cX12_find 115 = .ok (.invokevirtual 197, 3)) ∧ True := dkW [(98, .putfield 194, 3), (101, .aload_n 0, 1), (102, .iload_n 1, 1), (103, .putfield 64, 3), (106, .aload_n 0, 1), (107, .aload_n 0, 1), (108, .iload_n 1, 1), (109, .aload_n 0, 1), (110, .getfield 19, 3), (113, .iload_n 1, 1), (114, .iaload, 1), (115, .invokevirtual 197, 3)] 98 (by decide +kernel)
theorem dX12_find_98 : decode cX12_find 98 = .ok (.putfield 194, 3) := dgX12_find_98.1
theorem dX12_find_101 : decode cX12_find 101 = .ok (.aload_n 0, 1) := dgX12_find_98.2.1
theorem dX12_find_102 : decode cX12_find 102 = .ok (.iload_n 1, 1) := dgX12_find_98.2.2.1
theorem dX12_find_103 : decode cX12_find 103 = .ok (.putfield 64, 3) := dgX12_find_98.2.2.2.1
theorem dX12_find_106 : decode cX12_find 106 = .ok (.aload_n 0, 1) := dgX12_find_98.2.2.2.2.1
theorem dX12_find_107 : decode cX12_find 107 = .ok (.aload_n 0, 1) := dgX12_find_98.2.2.2.2.2.1
theorem dX12_find_108 : decode cX12_find 108 = .ok (.iload_n 1, 1) := dgX12_find_98.2.2.2.2.2.2.1
theorem dX12_find_109 : decode cX12_find 109 = .ok (.aload_n 0, 1) := dgX12_find_98.2.2.2.2.2.2.2.1
theorem dX12_find_110 : decode cX12_find 110 = .ok (.getfield 19, 3) := dgX12_find_98.2.2.2.2.2.2.2.2.1
theorem dX12_find_113 : decode cX12_find 113 = .ok (.iload_n 1, 1) := dgX12_find_98.2.2.2.2.2.2.2.2.2.1
theorem dX12_find_114 : decode cX12_find 114 = .ok (.iaload, 1) := dgX12_find_98.2.2.2.2.2.2.2.2.2.2.1
theorem dX12_find_115 : decode cX12_find 115 = .ok (.invokevirtual 197, 3) := dgX12_find_98.2.2.2.2.2.2.2.2.2.2.2.1
theorem dgX12_find_118 : (decode cX12_find 118 = .ok (.putfield 67, 3)) ∧ (decode cX12_find 121 = .ok (.return_, 1)) ∧ (decode cX12_find 122 = .ok (.iinc 1 1, 3)) ∧ (decode cX12_find 125 = .ok (.goto (-54), 3)) ∧ (decode cX12_find 128 = .ok (.aload_n 0, 1)) ∧ (decode cX12_find 129 = .ok (.invokevirtual 200, 3)) ∧ (decode cX12_find 132 = .ok (.istore_n 1, 1)) ∧ (decode cX12_find 133 = .ok (.aload_n 0, 1)) ∧ (decode cX12_find 134 = .ok (.iload_n 1, 1)) ∧ (decode cX12_find 135 = .ok (.aload_n 0, 1)) ∧ (decode cX12_find 136 = .ok (.getfield 60, 3)) ∧ (decode cX12_find 139 = .ok (.if_icmp .gt 12, 3)) ∧ True := dkW [(118, .putfield 67, 3), (121, .return_, 1), (122, .iinc 1 1, 3), (125, .goto (-54), 3), (128, .aload_n 0, 1), (129, .invokevirtual 200, 3), (132, .istore_n 1, 1), (133, .aload_n 0, 1), (134, .iload_n 1, 1), (135, .aload_n 0, 1), (136, .getfield 60, 3), (139, .if_icmp .gt 12, 3)] 118 (by decide +kernel)
theorem dX12_find_118 : decode cX12_find 118 = .ok (.putfield 67, 3) := dgX12_find_118.1
theorem dX12_find_121 : decode cX12_find 121 = .ok (.return_, 1) := dgX12_find_118.2.1
theorem dX12_find_122 : decode cX12_find 122 = .ok (.iinc 1 1, 3) := dgX12_find_118.2.2.1
theorem dX12_find_125 : decode cX12_find 125 = .ok (.goto (-54), 3) := dgX12_find_118.2.2.2.1
theorem dX12_find_128 : decode cX12_find 128 = .ok (.aload_n 0, 1) := dgX12_find_118.2.2.2.2.1
theorem dX12_find_129 : decode cX12_find 129 = .ok (.invokevirtual 200, 3) := dgX12_find_118.2.2.2.2.2.1
theorem dX12_find_132 : decode cX12_find 132 = .ok (.istore_n 1, 1) := dgX12_find_118.2.2.2.2.2.2.1
theorem dX12_find_133 : decode cX12_find 133 = .ok (.aload_n 0, 1) := dgX12_find_118.2.2.2.2.2.2.2.1
theorem dX12_find_134 : decode cX12_find 134 = .ok (.iload_n 1, 1) := dgX12_find_118.2.2.2.2.2.2.2.2.1
theorem dX12_find_135 : decode cX12_find 135 = .ok (.aload_n 0, 1) := dgX12_find_118.2.2.2.2.2.2.2.2.2.1
theorem dX12_find_136 : decode cX12_find 136 = .ok (.getfield 60, 3) := dgX12_find_118.2.2.2.2.2.2.2.2.2.2.1
theorem dX12_find_139 : decode cX12_find 139 = .ok (.if_icmp .gt 12, 3) := dgX12_find_118.2.2.2.2.2.2.2.2.2.2.2.1
theorem dgX12_find_142 : (decode cX12_find 142 = .ok (.iload_n 1, 1)) ∧ (decode cX12_find 143 = .ok (.aload_n 0, 1)) ∧ (decode cX12_find 144 = .ok (.getfield 60, 3)) ∧ (decode cX12_find 147 = .ok (.ineg, 1)) ∧ (decode cX12_find 148 = .ok (.if_icmp .ge 7, 3)) ∧ (decode cX12_find 151 = .ok (.iconst 3, 1)) ∧ (decode cX12_find 152 = .ok (.goto 4, 3)) ∧ (decode cX12_find 155 = .ok (.iconst 0, 1)) ∧ (decode cX12_find 156 = .ok (.putfield 194, 3)) ∧ (decode cX12_find 159 = .ok (.return_, 1)) ∧ True := dkW [(142, .iload_n 1, 1), (143, .aload_n 0, 1), (144, .getfield 60, 3), (147, .ineg, 1), (148, .if_icmp .ge 7, 3), (151, .iconst 3, 1), (152, .goto 4, 3), (155, .iconst 0, 1), (156, .putfield 194, 3), (159, .return_, 1)] 142 (by decide +kernel)
theorem dX12_find_142 : decode cX12_find 142 = .ok (.iload_n 1, 1) := dgX12_find_142.1
theorem dX12_find_143 : decode cX12_find 143 = .ok (.aload_n 0, 1) := dgX12_find_142.2.1
theorem dX12_find_144 : decode cX12_find 144 = .ok (.getfield 60, 3) := dgX12_find_142.2.2.1
theorem dX12_find_147 : decode cX12_find 147 = .ok (.ineg, 1) := dgX12_find_142.2.2.2.1
theorem dX12_find_148 : decode cX12_find 148 = .ok (.if_icmp .ge 7, 3) := dgX12_find_142.2.2.2.2.1
theorem dX12_find_151 : decode cX12_find 151 = .ok (.iconst 3, 1) := dgX12_find_142.2.2.2.2.2.1
theorem dX12_find_152 : decode cX12_find 152 = .ok (.goto 4, 3) := dgX12_find_142.2.2.2.2.2.2.1
theorem dX12_find_155 : decode cX12_find 155 = .ok (.iconst 0, 1) := dgX12_find_142.2.2.2.2.2.2.2.1
theorem dX12_find_156 : decode cX12_find 156 = .ok (.putfield 194, 3) := dgX12_find_142.2.2.2.2.2.2.2.2.1
theorem dX12_find_159 : decode cX12_find 159 = .ok (.return_, 1) := dgX12_find_142.2.2.2.2.2.2.2.2.2.1
abbrev rmX12_find : Room := { frames := 2, cells := 0, slots := 0, locals := 46 }
noncomputable def fX12_find_b156 (N : Nat)  (t : Nat) (h : Hs) (q0 : Option Nat) (u1 : Int32) : Option (Hs) :=
  (qI 12 23 h q0 u1).bind fun h1 =>
  some h1
set_option maxHeartbeats 4000000 in
set_option maxRecDepth 20000 in
theorem wX12_find_b156 {p : Program} {l : Launch} {e : Env} {s : State} {m : MethodId} {args : Array Value} {below : List Frame} {meth : Method} {c : Code} {G : Gl} {N : Nat} {h : Hs} {r : Hs}  {t : Nat} {q0 : Option Nat} {u1 : Int32} (C : Cx p s m args meth c cX12_find RX12 2 G) (hret : meth.sig.returnType = none)  (hf : fX12_find_b156 N  t h q0 u1 = some r) : V p l e rmX12_find s m args below meth c G 2 (MQ below (QcG G (none) r) args s rmX12_find.cells rmX12_find.slots (AG G)) h 0 0 156 [some (.inr (some t)), none] [.inl u1, .inr q0] := by
  unfold fX12_find_b156 at hf
  obtain ⟨h1, eh1, hf⟩ := bS hf
  refine r_putI C dX12_find_156 fl_X12_194 (Or.inl fn_12_23) rfl eh1 ?_
  exact r_vretF C dX12_find_159 hret hf (by decide) (by decide)
noncomputable def fX12_find_b151 (N : Nat)  (t : Nat) (h : Hs) (q0 : Option Nat) : Option (Hs) :=
  fX12_find_b156 N t h q0 3
set_option maxHeartbeats 4000000 in
set_option maxRecDepth 20000 in
theorem wX12_find_b151 {p : Program} {l : Launch} {e : Env} {s : State} {m : MethodId} {args : Array Value} {below : List Frame} {meth : Method} {c : Code} {G : Gl} {N : Nat} {h : Hs} {r : Hs}  {t : Nat} {q0 : Option Nat} (C : Cx p s m args meth c cX12_find RX12 2 G) (hret : meth.sig.returnType = none)  (hf : fX12_find_b151 N  t h q0 = some r) : V p l e rmX12_find s m args below meth c G 2 (MQ below (QcG G (none) r) args s rmX12_find.cells rmX12_find.slots (AG G)) h 0 0 151 [some (.inr (some t)), none] [.inr q0] := by
  unfold fX12_find_b151 at hf
  refine r_iconst (v := 3) C dX12_find_151 (by decide) ?_
  refine r_goto (tgt := 156) C dX12_find_152 (by decide) ?_
  exact V.sub (wX12_find_b156 C hret hf) (LW_s rfl (LW_n (LW_e)))
noncomputable def fX12_find_b71_body (N : Nat)  (g71 : Hs → Int32 → Option (Hs)) (t : Nat) (h : Hs) (x1 : Int32) : Option (Hs) :=
  (oI 12 1 h (some t)).bind fun v1 =>
  if v1 ≤ x1 then (
  (rc 12 h (some t)).bind fun a3 =>
  (fX12_pull N h a3 ).bind fun r2 =>
  (oI 12 20 r2.2 (some t)).bind fun v4 =>
  if v4 < r2.1 then (
  fX12_find_b151 N t r2.2 (some t))
  else (oI 12 20 r2.2 (some t)).bind fun v5 =>
  if (-v5) ≤ r2.1 then (
  fX12_find_b156 N t r2.2 (some t) 0)
  else fX12_find_b151 N t r2.2 (some t))
  else (oR 12 5 h (some t)).bind fun o6 =>
  (lA 20 h o6 x1).bind fun v7 =>
  (rc 12 h (some t)).bind fun a9 =>
  (fX12_other N h a9 x1 v7).bind fun r8 =>
  if 0 ≤ r8.1 then (
  (qI 12 23 r8.2 (some t) 2).bind fun h10 =>
  (qI 12 24 h10 (some t) x1).bind fun h11 =>
  (oR 12 5 h11 (some t)).bind fun o12 =>
  (lA 20 h11 o12 x1).bind fun v13 =>
  (rc 12 h11 (some t)).bind fun a15 =>
  (fX12_other N h11 a15 x1 v13).bind fun r14 =>
  (qI 12 25 r14.2 (some t) r14.1).bind fun h16 =>
  some h16)
  else (some (x1 + 1)).bind fun y17 =>
  g71 r8.2 y17
noncomputable def fX12_find_b71 (N : Nat)  (t : Nat) (n : Nat) : Hs → Int32 → Option (Hs) := lp (fun _ _ => none) (fun g h x1 => fX12_find_b71_body N  g t h x1) n
set_option maxHeartbeats 4000000 in
set_option maxRecDepth 20000 in
theorem wX12_find_b71_body {p : Program} {l : Launch} {e : Env} {s : State} {m : MethodId} {args : Array Value} {below : List Frame} {meth : Method} {c : Code} {G : Gl} {N : Nat} {h : Hs} {r : Hs}  {g71 : Hs → Int32 → Option (Hs)} {t : Nat} {x1 : Int32} (C : Cx p s m args meth c cX12_find RX12 2 G) (hret : meth.sig.returnType = none)  (hg71 : ∀ (h : Hs) (x1 : Int32), g71 h x1 = some r → V p l e rmX12_find s m args below meth c G 2 (MQ below (QcG G (none) r) args s rmX12_find.cells rmX12_find.slots (AG G)) h 0 0 71 [some (.inr (some t)), some (.inl x1)] []) (hf : fX12_find_b71_body N  g71 t h x1 = some r) : V p l e rmX12_find s m args below meth c G 2 (MQ below (QcG G (none) r) args s rmX12_find.cells rmX12_find.slots (AG G)) h 0 0 71 [some (.inr (some t)), some (.inl x1)] [] := by
  unfold fX12_find_b71_body at hf
  refine r_iload_n C dX12_find_71 rfl ?_
  refine r_aload_n C dX12_find_72 rfl ?_
  obtain ⟨v1, ev1, hf⟩ := bS hf
  refine r_getI C dX12_find_73 fl_X12_146 rfl ev1 ?_
  refine r_icmp_ge (tgt := 128) C dX12_find_76 (by decide) (fun hc => ?_) (fun hc => ?_)
  · have hf := ifT hf hc
    refine r_aload_n C dX12_find_128 rfl ?_
    obtain ⟨a3, ea3, hf⟩ := bS hf
    obtain ⟨r2, er2, hf⟩ := bS hf
    refine r_invV1 (As := []) (ci := 12) C dX12_find_129 mcX12_pull wd_1288 wd_1258 wd_1259 rfl rfl (by decide) ⟨by decide, by decide⟩ ⟨by decide, by decide⟩ rfl (Nat.le_of_ble_eq_true rfl) ea3 (kX12_pull l G er2) ?_
    refine r_istore_n C dX12_find_132 (by decide) ?_
    refine r_aload_n C dX12_find_133 rfl ?_
    refine r_iload_n C dX12_find_134 rfl ?_
    refine r_aload_n C dX12_find_135 rfl ?_
    obtain ⟨v4, ev4, hf⟩ := bS hf
    refine r_getI C dX12_find_136 fl_X12_60 rfl ev4 ?_
    refine r_icmp_gt (tgt := 151) C dX12_find_139 (by decide) (fun hc => ?_) (fun hc => ?_)
    · have hf := ifT hf hc
      exact V.sub (wX12_find_b151 C hret hf) (LW_s rfl (LW_n (LW_e)))
    · have hf := ifF hf hc
      refine r_iload_n C dX12_find_142 rfl ?_
      refine r_aload_n C dX12_find_143 rfl ?_
      obtain ⟨v5, ev5, hf⟩ := bS hf
      refine r_getI C dX12_find_144 fl_X12_60 rfl ev5 ?_
      refine r_ineg C dX12_find_147 ?_
      refine r_icmp_ge (tgt := 155) C dX12_find_148 (by decide) (fun hc => ?_) (fun hc => ?_)
      · have hf := ifT hf hc
        refine r_iconst (v := 0) C dX12_find_155 (by decide) ?_
        exact V.sub (wX12_find_b156 C hret hf) (LW_s rfl (LW_n (LW_e)))
      · have hf := ifF hf hc
        exact V.sub (wX12_find_b151 C hret hf) (LW_s rfl (LW_n (LW_e)))
  · have hf := ifF hf hc
    refine r_aload_n C dX12_find_79 rfl ?_
    refine r_iload_n C dX12_find_80 rfl ?_
    refine r_aload_n C dX12_find_81 rfl ?_
    obtain ⟨o6, eo6, hf⟩ := bS hf
    refine r_getR C dX12_find_82 fl_X12_19 rfl eo6 ?_
    refine r_iload_n C dX12_find_85 rfl ?_
    obtain ⟨v7, ev7, hf⟩ := bS hf
    refine r_iald C dX12_find_86 ev7 ?_
    obtain ⟨a9, ea9, hf⟩ := bS hf
    obtain ⟨r8, er8, hf⟩ := bS hf
    refine r_invV1 (As := [.inl x1, .inl v7]) (ci := 12) C dX12_find_87 mcX12_other wd_1280 wd_1282 wp_42 rfl rfl (by decide) ⟨by decide, by decide⟩ ⟨by decide, by decide⟩ rfl (Nat.le_of_ble_eq_true rfl) ea9 (kX12_other l G er8) ?_
    refine r_if_ge (tgt := 96) C dX12_find_90 (by decide) (fun hc => ?_) (fun hc => ?_)
    · have hf := ifT hf hc
      refine r_aload_n C dX12_find_96 rfl ?_
      refine r_iconst (v := 2) C dX12_find_97 (by decide) ?_
      obtain ⟨h10, eh10, hf⟩ := bS hf
      refine r_putI C dX12_find_98 fl_X12_194 (Or.inl fn_12_23) rfl eh10 ?_
      refine r_aload_n C dX12_find_101 rfl ?_
      refine r_iload_n C dX12_find_102 rfl ?_
      obtain ⟨h11, eh11, hf⟩ := bS hf
      refine r_putI C dX12_find_103 fl_X12_64 (Or.inl fn_12_24) rfl eh11 ?_
      refine r_aload_n C dX12_find_106 rfl ?_
      refine r_aload_n C dX12_find_107 rfl ?_
      refine r_iload_n C dX12_find_108 rfl ?_
      refine r_aload_n C dX12_find_109 rfl ?_
      obtain ⟨o12, eo12, hf⟩ := bS hf
      refine r_getR C dX12_find_110 fl_X12_19 rfl eo12 ?_
      refine r_iload_n C dX12_find_113 rfl ?_
      obtain ⟨v13, ev13, hf⟩ := bS hf
      refine r_iald C dX12_find_114 ev13 ?_
      obtain ⟨a15, ea15, hf⟩ := bS hf
      obtain ⟨r14, er14, hf⟩ := bS hf
      refine r_invV1 (As := [.inl x1, .inl v13]) (ci := 12) C dX12_find_115 mcX12_other wd_1280 wd_1282 wp_42 rfl rfl (by decide) ⟨by decide, by decide⟩ ⟨by decide, by decide⟩ rfl (Nat.le_of_ble_eq_true rfl) ea15 (kX12_other l G er14) ?_
      obtain ⟨h16, eh16, hf⟩ := bS hf
      refine r_putI C dX12_find_118 fl_X12_67 (Or.inl fn_12_25) rfl eh16 ?_
      exact r_vretF C dX12_find_121 hret hf (by decide) (by decide)
    · have hf := ifF hf hc
      refine r_goto (tgt := 122) C dX12_find_93 (by decide) ?_
      obtain ⟨y17, ey17, hf⟩ := bS hf
      refine r_iincE (v := 1) C dX12_find_122 rfl (by decide) (by decide) ey17 ?_
      refine r_goto (tgt := 71) C dX12_find_125 (by decide) ?_
      exact V.sub (hg71 _ _ hf) (LW_s rfl (LW_s rfl (LW_e)))
theorem wX12_find_b71 {p : Program} {l : Launch} {e : Env} {s : State} {m : MethodId} {args : Array Value} {below : List Frame} {meth : Method} {c : Code} {G : Gl} {N : Nat} {r : Hs}  {t : Nat} (C : Cx p s m args meth c cX12_find RX12 2 G) (hret : meth.sig.returnType = none)  : ∀ (n : Nat) (h : Hs) (x1 : Int32), fX12_find_b71 N  t n h x1 = some r → V p l e rmX12_find s m args below meth c G 2 (MQ below (QcG G (none) r) args s rmX12_find.cells rmX12_find.slots (AG G)) h 0 0 71 [some (.inr (some t)), some (.inl x1)] [] := by
  intro n
  induction n with
  | zero => intro h x1 hf; exact absurd (show (none : Option (Hs)) = some r from hf) (fun q => by cases q)
  | succ n ih => intro h x1 hf; exact wX12_find_b71_body C hret  ih (show fX12_find_b71_body N  (fX12_find_b71 N  t n) t h x1 = some r from hf)
noncomputable def fX12_find_b17_body (N : Nat)  (g17 : Hs → Int32 → Option (Hs)) (t : Nat) (h : Hs) (x1 : Int32) : Option (Hs) :=
  (oI 12 1 h (some t)).bind fun v1 =>
  if v1 ≤ x1 then (
  fX12_find_b71 N t N h 0)
  else (oR 12 5 h (some t)).bind fun o2 =>
  (lA 20 h o2 x1).bind fun v3 =>
  (oR 12 6 h (some t)).bind fun o4 =>
  (lA 20 h o4 x1).bind fun v5 =>
  (oR 12 7 h (some t)).bind fun o6 =>
  (lA 20 h o6 x1).bind fun v7 =>
  (fX12_in N h v3 v5 v7).bind fun r8 =>
  if r8.1 = 0 then (
  (qI 12 23 r8.2 (some t) 1).bind fun h9 =>
  (qI 12 24 h9 (some t) x1).bind fun h10 =>
  some h10)
  else (some (x1 + 1)).bind fun y11 =>
  g17 r8.2 y11
noncomputable def fX12_find_b17 (N : Nat)  (t : Nat) (n : Nat) : Hs → Int32 → Option (Hs) := lp (fun _ _ => none) (fun g h x1 => fX12_find_b17_body N  g t h x1) n
set_option maxHeartbeats 4000000 in
set_option maxRecDepth 20000 in
theorem wX12_find_b17_body {p : Program} {l : Launch} {e : Env} {s : State} {m : MethodId} {args : Array Value} {below : List Frame} {meth : Method} {c : Code} {G : Gl} {N : Nat} {h : Hs} {r : Hs}  {g17 : Hs → Int32 → Option (Hs)} {t : Nat} {x1 : Int32} (C : Cx p s m args meth c cX12_find RX12 2 G) (hret : meth.sig.returnType = none)  (hg17 : ∀ (h : Hs) (x1 : Int32), g17 h x1 = some r → V p l e rmX12_find s m args below meth c G 2 (MQ below (QcG G (none) r) args s rmX12_find.cells rmX12_find.slots (AG G)) h 0 0 17 [some (.inr (some t)), some (.inl x1)] []) (hf : fX12_find_b17_body N  g17 t h x1 = some r) : V p l e rmX12_find s m args below meth c G 2 (MQ below (QcG G (none) r) args s rmX12_find.cells rmX12_find.slots (AG G)) h 0 0 17 [some (.inr (some t)), some (.inl x1)] [] := by
  unfold fX12_find_b17_body at hf
  refine r_iload_n C dX12_find_17 rfl ?_
  refine r_aload_n C dX12_find_18 rfl ?_
  obtain ⟨v1, ev1, hf⟩ := bS hf
  refine r_getI C dX12_find_19 fl_X12_146 rfl ev1 ?_
  refine r_icmp_ge (tgt := 69) C dX12_find_22 (by decide) (fun hc => ?_) (fun hc => ?_)
  · have hf := ifT hf hc
    refine r_iconst (v := 0) C dX12_find_69 (by decide) ?_
    refine r_istore_n C dX12_find_70 (by decide) ?_
    exact V.sub (wX12_find_b71 C hret N _ _ hf) (LW_s rfl (LW_s rfl (LW_e)))
  · have hf := ifF hf hc
    refine r_aload_n C dX12_find_25 rfl ?_
    obtain ⟨o2, eo2, hf⟩ := bS hf
    refine r_getR C dX12_find_26 fl_X12_19 rfl eo2 ?_
    refine r_iload_n C dX12_find_29 rfl ?_
    obtain ⟨v3, ev3, hf⟩ := bS hf
    refine r_iald C dX12_find_30 ev3 ?_
    refine r_aload_n C dX12_find_31 rfl ?_
    obtain ⟨o4, eo4, hf⟩ := bS hf
    refine r_getR C dX12_find_32 fl_X12_22 rfl eo4 ?_
    refine r_iload_n C dX12_find_35 rfl ?_
    obtain ⟨v5, ev5, hf⟩ := bS hf
    refine r_iald C dX12_find_36 ev5 ?_
    refine r_aload_n C dX12_find_37 rfl ?_
    obtain ⟨o6, eo6, hf⟩ := bS hf
    refine r_getR C dX12_find_38 fl_X12_25 rfl eo6 ?_
    refine r_iload_n C dX12_find_41 rfl ?_
    obtain ⟨v7, ev7, hf⟩ := bS hf
    refine r_iald C dX12_find_42 ev7 ?_
    obtain ⟨r8, er8, hf⟩ := bS hf
    refine r_invS1 (As := [.inl v3, .inl v5, .inl v7]) C dX12_find_43 mcX12_in wd_1185 wd_1186 ⟨by decide, by decide⟩ ⟨by decide, by decide⟩ rfl (Nat.le_of_ble_eq_true rfl) (kX12_in l G er8) ?_
    refine r_if_eq (tgt := 52) C dX12_find_46 (by decide) (fun hc => ?_) (fun hc => ?_)
    · have hf := ifT hf hc
      refine r_aload_n C dX12_find_52 rfl ?_
      refine r_iconst (v := 1) C dX12_find_53 (by decide) ?_
      obtain ⟨h9, eh9, hf⟩ := bS hf
      refine r_putI C dX12_find_54 fl_X12_194 (Or.inl fn_12_23) rfl eh9 ?_
      refine r_aload_n C dX12_find_57 rfl ?_
      refine r_iload_n C dX12_find_58 rfl ?_
      obtain ⟨h10, eh10, hf⟩ := bS hf
      refine r_putI C dX12_find_59 fl_X12_64 (Or.inl fn_12_24) rfl eh10 ?_
      exact r_vretF C dX12_find_62 hret hf (by decide) (by decide)
    · have hf := ifF hf hc
      refine r_goto (tgt := 63) C dX12_find_49 (by decide) ?_
      obtain ⟨y11, ey11, hf⟩ := bS hf
      refine r_iincE (v := 1) C dX12_find_63 rfl (by decide) (by decide) ey11 ?_
      refine r_goto (tgt := 17) C dX12_find_66 (by decide) ?_
      exact V.sub (hg17 _ _ hf) (LW_s rfl (LW_s rfl (LW_e)))
theorem wX12_find_b17 {p : Program} {l : Launch} {e : Env} {s : State} {m : MethodId} {args : Array Value} {below : List Frame} {meth : Method} {c : Code} {G : Gl} {N : Nat} {r : Hs}  {t : Nat} (C : Cx p s m args meth c cX12_find RX12 2 G) (hret : meth.sig.returnType = none)  : ∀ (n : Nat) (h : Hs) (x1 : Int32), fX12_find_b17 N  t n h x1 = some r → V p l e rmX12_find s m args below meth c G 2 (MQ below (QcG G (none) r) args s rmX12_find.cells rmX12_find.slots (AG G)) h 0 0 17 [some (.inr (some t)), some (.inl x1)] [] := by
  intro n
  induction n with
  | zero => intro h x1 hf; exact absurd (show (none : Option (Hs)) = some r from hf) (fun q => by cases q)
  | succ n ih => intro h x1 hf; exact wX12_find_b17_body C hret  ih (show fX12_find_b17_body N  (fX12_find_b17 N  t n) t h x1 = some r from hf)
noncomputable def fX12_find (N : Nat) (h : Hs) (t : Nat)  : Option (Hs) :=
  (qI 12 23 h (some t) 0).bind fun h1 =>
  (qI 12 24 h1 (some t) (-1)).bind fun h2 =>
  (qI 12 25 h2 (some t) (-1)).bind fun h3 =>
  fX12_find_b17 N t N h3 0
set_option maxHeartbeats 4000000 in
set_option maxRecDepth 20000 in
theorem kX12_find (l : Launch) (G : Gl) {N : Nat} {h : Hs} {t : Nat}  {r : Hs} (hf : fX12_find N h t  = some r) : CT l G yX12_find cX12_find 2 none rmX12_find [.inr (some t)] h (none) r := by
  refine mk_CT (by decide) (Nat.le_of_ble_eq_true rfl) ?_
  intro p e s m args below meth c C hret hin
  unfold fX12_find at hf
  refine r_aload_n C dX12_find_0 rfl ?_
  refine r_iconst (v := 0) C dX12_find_1 (by decide) ?_
  obtain ⟨h1, eh1, hf⟩ := bS hf
  refine r_putI C dX12_find_2 fl_X12_194 (Or.inl fn_12_23) rfl eh1 ?_
  refine r_aload_n C dX12_find_5 rfl ?_
  refine r_iconst (v := -1) C dX12_find_6 (by decide) ?_
  obtain ⟨h2, eh2, hf⟩ := bS hf
  refine r_putI C dX12_find_7 fl_X12_64 (Or.inl fn_12_24) rfl eh2 ?_
  refine r_aload_n C dX12_find_10 rfl ?_
  refine r_iconst (v := -1) C dX12_find_11 (by decide) ?_
  obtain ⟨h3, eh3, hf⟩ := bS hf
  refine r_putI C dX12_find_12 fl_X12_67 (Or.inl fn_12_25) rfl eh3 ?_
  refine r_iconst (v := 0) C dX12_find_15 (by decide) ?_
  refine r_istore_n C dX12_find_16 (by decide) ?_
  exact V.sub (wX12_find_b17 C hret N _ _ hf) (LW_s rfl (LW_s rfl (LW_e)))

theorem dgX12_turnNow_0 : (decode cX12_turnNow 0 = .ok (.aload_n 0, 1)) ∧ (decode cX12_turnNow 1 = .ok (.iconst 0, 1)) ∧ (decode cX12_turnNow 2 = .ok (.putfield 194, 3)) ∧ (decode cX12_turnNow 5 = .ok (.aload_n 0, 1)) ∧ True := dkW [(0, .aload_n 0, 1), (1, .iconst 0, 1), (2, .putfield 194, 3), (5, .aload_n 0, 1)] 0 (by decide +kernel)
theorem dX12_turnNow_0 : decode cX12_turnNow 0 = .ok (.aload_n 0, 1) := dgX12_turnNow_0.1
theorem dX12_turnNow_1 : decode cX12_turnNow 1 = .ok (.iconst 0, 1) := dgX12_turnNow_0.2.1
theorem dX12_turnNow_2 : decode cX12_turnNow 2 = .ok (.putfield 194, 3) := dgX12_turnNow_0.2.2.1
theorem dX12_turnNow_5 : decode cX12_turnNow 5 = .ok (.aload_n 0, 1) := dgX12_turnNow_0.2.2.2.1
theorem dX12_turnNow_6 : decode cX12_turnNow 6 = .ok (.iconst (-1), 1) := by decide +kernel
theorem dgX12_turnNow_7 : (decode cX12_turnNow 7 = .ok (.putfield 64, 3)) ∧ (decode cX12_turnNow 10 = .ok (.aload_n 0, 1)) ∧ True := dkW [(7, .putfield 64, 3), (10, .aload_n 0, 1)] 7 (by decide +kernel)
theorem dX12_turnNow_7 : decode cX12_turnNow 7 = .ok (.putfield 64, 3) := dgX12_turnNow_7.1
theorem dX12_turnNow_10 : decode cX12_turnNow 10 = .ok (.aload_n 0, 1) := dgX12_turnNow_7.2.1
theorem dX12_turnNow_11 : decode cX12_turnNow 11 = .ok (.iconst (-1), 1) := by decide +kernel
theorem dgX12_turnNow_12 : (decode cX12_turnNow 12 = .ok (.putfield 67, 3)) ∧ (decode cX12_turnNow 15 = .ok (.iload_n 1, 1)) ∧ (decode cX12_turnNow 16 = .ok (.ifCond .ge 7, 3)) ∧ True := dkW [(12, .putfield 67, 3), (15, .iload_n 1, 1), (16, .ifCond .ge 7, 3)] 12 (by decide +kernel)
theorem dX12_turnNow_12 : decode cX12_turnNow 12 = .ok (.putfield 67, 3) := dgX12_turnNow_12.1
theorem dX12_turnNow_15 : decode cX12_turnNow 15 = .ok (.iload_n 1, 1) := dgX12_turnNow_12.2.1
theorem dX12_turnNow_16 : decode cX12_turnNow 16 = .ok (.ifCond .ge 7, 3) := dgX12_turnNow_12.2.2.1
theorem dX12_turnNow_19 : decode cX12_turnNow 19 = .ok (.iconst (-1), 1) := by decide +kernel
theorem dgX12_turnNow_20 : (decode cX12_turnNow 20 = .ok (.goto 4, 3)) ∧ (decode cX12_turnNow 23 = .ok (.iconst 1, 1)) ∧ (decode cX12_turnNow 24 = .ok (.istore_n 2, 1)) ∧ (decode cX12_turnNow 25 = .ok (.iload_n 1, 1)) ∧ (decode cX12_turnNow 26 = .ok (.ifCond .ge 8, 3)) ∧ (decode cX12_turnNow 29 = .ok (.iload_n 1, 1)) ∧ (decode cX12_turnNow 30 = .ok (.ineg, 1)) ∧ (decode cX12_turnNow 31 = .ok (.goto 4, 3)) ∧ (decode cX12_turnNow 34 = .ok (.iload_n 1, 1)) ∧ (decode cX12_turnNow 35 = .ok (.istore_n 3, 1)) ∧ (decode cX12_turnNow 36 = .ok (.iconst 0, 1)) ∧ (decode cX12_turnNow 37 = .ok (.istore 4, 2)) ∧ True := dkW [(20, .goto 4, 3), (23, .iconst 1, 1), (24, .istore_n 2, 1), (25, .iload_n 1, 1), (26, .ifCond .ge 8, 3), (29, .iload_n 1, 1), (30, .ineg, 1), (31, .goto 4, 3), (34, .iload_n 1, 1), (35, .istore_n 3, 1), (36, .iconst 0, 1), (37, .istore 4, 2)] 20 (by decide +kernel)
theorem dX12_turnNow_20 : decode cX12_turnNow 20 = .ok (.goto 4, 3) := dgX12_turnNow_20.1
theorem dX12_turnNow_23 : decode cX12_turnNow 23 = .ok (.iconst 1, 1) := dgX12_turnNow_20.2.1
theorem dX12_turnNow_24 : decode cX12_turnNow 24 = .ok (.istore_n 2, 1) := dgX12_turnNow_20.2.2.1
theorem dX12_turnNow_25 : decode cX12_turnNow 25 = .ok (.iload_n 1, 1) := dgX12_turnNow_20.2.2.2.1
theorem dX12_turnNow_26 : decode cX12_turnNow 26 = .ok (.ifCond .ge 8, 3) := dgX12_turnNow_20.2.2.2.2.1
theorem dX12_turnNow_29 : decode cX12_turnNow 29 = .ok (.iload_n 1, 1) := dgX12_turnNow_20.2.2.2.2.2.1
theorem dX12_turnNow_30 : decode cX12_turnNow 30 = .ok (.ineg, 1) := dgX12_turnNow_20.2.2.2.2.2.2.1
theorem dX12_turnNow_31 : decode cX12_turnNow 31 = .ok (.goto 4, 3) := dgX12_turnNow_20.2.2.2.2.2.2.2.1
theorem dX12_turnNow_34 : decode cX12_turnNow 34 = .ok (.iload_n 1, 1) := dgX12_turnNow_20.2.2.2.2.2.2.2.2.1
theorem dX12_turnNow_35 : decode cX12_turnNow 35 = .ok (.istore_n 3, 1) := dgX12_turnNow_20.2.2.2.2.2.2.2.2.2.1
theorem dX12_turnNow_36 : decode cX12_turnNow 36 = .ok (.iconst 0, 1) := dgX12_turnNow_20.2.2.2.2.2.2.2.2.2.2.1
theorem dX12_turnNow_37 : decode cX12_turnNow 37 = .ok (.istore 4, 2) := dgX12_turnNow_20.2.2.2.2.2.2.2.2.2.2.2.1
theorem dgX12_turnNow_39 : (decode cX12_turnNow 39 = .ok (.iload 4, 2)) ∧ (decode cX12_turnNow 41 = .ok (.iload_n 3, 1)) ∧ (decode cX12_turnNow 42 = .ok (.if_icmp .ge 54, 3)) ∧ (decode cX12_turnNow 45 = .ok (.aload_n 0, 1)) ∧ (decode cX12_turnNow 46 = .ok (.iload_n 2, 1)) ∧ (decode cX12_turnNow 47 = .ok (.invokevirtual 204, 3)) ∧ (decode cX12_turnNow 50 = .ok (.aload_n 0, 1)) ∧ (decode cX12_turnNow 51 = .ok (.invokevirtual 208, 3)) ∧ (decode cX12_turnNow 54 = .ok (.aload_n 0, 1)) ∧ (decode cX12_turnNow 55 = .ok (.getfield 194, 3)) ∧ (decode cX12_turnNow 58 = .ok (.ifCond .le 12, 3)) ∧ (decode cX12_turnNow 61 = .ok (.aload_n 0, 1)) ∧ True := dkW [(39, .iload 4, 2), (41, .iload_n 3, 1), (42, .if_icmp .ge 54, 3), (45, .aload_n 0, 1), (46, .iload_n 2, 1), (47, .invokevirtual 204, 3), (50, .aload_n 0, 1), (51, .invokevirtual 208, 3), (54, .aload_n 0, 1), (55, .getfield 194, 3), (58, .ifCond .le 12, 3), (61, .aload_n 0, 1)] 39 (by decide +kernel)
theorem dX12_turnNow_39 : decode cX12_turnNow 39 = .ok (.iload 4, 2) := dgX12_turnNow_39.1
theorem dX12_turnNow_41 : decode cX12_turnNow 41 = .ok (.iload_n 3, 1) := dgX12_turnNow_39.2.1
theorem dX12_turnNow_42 : decode cX12_turnNow 42 = .ok (.if_icmp .ge 54, 3) := dgX12_turnNow_39.2.2.1
theorem dX12_turnNow_45 : decode cX12_turnNow 45 = .ok (.aload_n 0, 1) := dgX12_turnNow_39.2.2.2.1
theorem dX12_turnNow_46 : decode cX12_turnNow 46 = .ok (.iload_n 2, 1) := dgX12_turnNow_39.2.2.2.2.1
theorem dX12_turnNow_47 : decode cX12_turnNow 47 = .ok (.invokevirtual 204, 3) := dgX12_turnNow_39.2.2.2.2.2.1
theorem dX12_turnNow_50 : decode cX12_turnNow 50 = .ok (.aload_n 0, 1) := dgX12_turnNow_39.2.2.2.2.2.2.1
theorem dX12_turnNow_51 : decode cX12_turnNow 51 = .ok (.invokevirtual 208, 3) := dgX12_turnNow_39.2.2.2.2.2.2.2.1
theorem dX12_turnNow_54 : decode cX12_turnNow 54 = .ok (.aload_n 0, 1) := dgX12_turnNow_39.2.2.2.2.2.2.2.2.1
theorem dX12_turnNow_55 : decode cX12_turnNow 55 = .ok (.getfield 194, 3) := dgX12_turnNow_39.2.2.2.2.2.2.2.2.2.1
theorem dX12_turnNow_58 : decode cX12_turnNow 58 = .ok (.ifCond .le 12, 3) := dgX12_turnNow_39.2.2.2.2.2.2.2.2.2.2.1
theorem dX12_turnNow_61 : decode cX12_turnNow 61 = .ok (.aload_n 0, 1) := dgX12_turnNow_39.2.2.2.2.2.2.2.2.2.2.2.1
theorem dgX12_turnNow_62 : (decode cX12_turnNow 62 = .ok (.iload_n 2, 1)) ∧ (decode cX12_turnNow 63 = .ok (.ineg, 1)) ∧ (decode cX12_turnNow 64 = .ok (.invokevirtual 204, 3)) ∧ (decode cX12_turnNow 67 = .ok (.iload 4, 2)) ∧ (decode cX12_turnNow 69 = .ok (.ireturn, 1)) ∧ (decode cX12_turnNow 70 = .ok (.aload_n 0, 1)) ∧ (decode cX12_turnNow 71 = .ok (.dup, 1)) ∧ (decode cX12_turnNow 72 = .ok (.getfield 211, 3)) ∧ (decode cX12_turnNow 75 = .ok (.iload_n 2, 1)) ∧ (decode cX12_turnNow 76 = .ok (.iadd, 1)) ∧ (decode cX12_turnNow 77 = .ok (.putfield 211, 3)) ∧ (decode cX12_turnNow 80 = .ok (.aload_n 0, 1)) ∧ True := dkW [(62, .iload_n 2, 1), (63, .ineg, 1), (64, .invokevirtual 204, 3), (67, .iload 4, 2), (69, .ireturn, 1), (70, .aload_n 0, 1), (71, .dup, 1), (72, .getfield 211, 3), (75, .iload_n 2, 1), (76, .iadd, 1), (77, .putfield 211, 3), (80, .aload_n 0, 1)] 62 (by decide +kernel)
theorem dX12_turnNow_62 : decode cX12_turnNow 62 = .ok (.iload_n 2, 1) := dgX12_turnNow_62.1
theorem dX12_turnNow_63 : decode cX12_turnNow 63 = .ok (.ineg, 1) := dgX12_turnNow_62.2.1
theorem dX12_turnNow_64 : decode cX12_turnNow 64 = .ok (.invokevirtual 204, 3) := dgX12_turnNow_62.2.2.1
theorem dX12_turnNow_67 : decode cX12_turnNow 67 = .ok (.iload 4, 2) := dgX12_turnNow_62.2.2.2.1
theorem dX12_turnNow_69 : decode cX12_turnNow 69 = .ok (.ireturn, 1) := dgX12_turnNow_62.2.2.2.2.1
theorem dX12_turnNow_70 : decode cX12_turnNow 70 = .ok (.aload_n 0, 1) := dgX12_turnNow_62.2.2.2.2.2.1
theorem dX12_turnNow_71 : decode cX12_turnNow 71 = .ok (.dup, 1) := dgX12_turnNow_62.2.2.2.2.2.2.1
theorem dX12_turnNow_72 : decode cX12_turnNow 72 = .ok (.getfield 211, 3) := dgX12_turnNow_62.2.2.2.2.2.2.2.1
theorem dX12_turnNow_75 : decode cX12_turnNow 75 = .ok (.iload_n 2, 1) := dgX12_turnNow_62.2.2.2.2.2.2.2.2.1
theorem dX12_turnNow_76 : decode cX12_turnNow 76 = .ok (.iadd, 1) := dgX12_turnNow_62.2.2.2.2.2.2.2.2.2.1
theorem dX12_turnNow_77 : decode cX12_turnNow 77 = .ok (.putfield 211, 3) := dgX12_turnNow_62.2.2.2.2.2.2.2.2.2.2.1
theorem dX12_turnNow_80 : decode cX12_turnNow 80 = .ok (.aload_n 0, 1) := dgX12_turnNow_62.2.2.2.2.2.2.2.2.2.2.2.1
theorem dgX12_turnNow_81 : (decode cX12_turnNow 81 = .ok (.dup, 1)) ∧ (decode cX12_turnNow 82 = .ok (.getfield 214, 3)) ∧ (decode cX12_turnNow 85 = .ok (.iconst 1, 1)) ∧ (decode cX12_turnNow 86 = .ok (.iadd, 1)) ∧ (decode cX12_turnNow 87 = .ok (.putfield 214, 3)) ∧ (decode cX12_turnNow 90 = .ok (.iinc 4 1, 3)) ∧ (decode cX12_turnNow 93 = .ok (.goto (-54), 3)) ∧ (decode cX12_turnNow 96 = .ok (.iload_n 3, 1)) ∧ (decode cX12_turnNow 97 = .ok (.ireturn, 1)) ∧ True := dkW [(81, .dup, 1), (82, .getfield 214, 3), (85, .iconst 1, 1), (86, .iadd, 1), (87, .putfield 214, 3), (90, .iinc 4 1, 3), (93, .goto (-54), 3), (96, .iload_n 3, 1), (97, .ireturn, 1)] 81 (by decide +kernel)
theorem dX12_turnNow_81 : decode cX12_turnNow 81 = .ok (.dup, 1) := dgX12_turnNow_81.1
theorem dX12_turnNow_82 : decode cX12_turnNow 82 = .ok (.getfield 214, 3) := dgX12_turnNow_81.2.1
theorem dX12_turnNow_85 : decode cX12_turnNow 85 = .ok (.iconst 1, 1) := dgX12_turnNow_81.2.2.1
theorem dX12_turnNow_86 : decode cX12_turnNow 86 = .ok (.iadd, 1) := dgX12_turnNow_81.2.2.2.1
theorem dX12_turnNow_87 : decode cX12_turnNow 87 = .ok (.putfield 214, 3) := dgX12_turnNow_81.2.2.2.2.1
theorem dX12_turnNow_90 : decode cX12_turnNow 90 = .ok (.iinc 4 1, 3) := dgX12_turnNow_81.2.2.2.2.2.1
theorem dX12_turnNow_93 : decode cX12_turnNow 93 = .ok (.goto (-54), 3) := dgX12_turnNow_81.2.2.2.2.2.2.1
theorem dX12_turnNow_96 : decode cX12_turnNow 96 = .ok (.iload_n 3, 1) := dgX12_turnNow_81.2.2.2.2.2.2.2.1
theorem dX12_turnNow_97 : decode cX12_turnNow 97 = .ok (.ireturn, 1) := dgX12_turnNow_81.2.2.2.2.2.2.2.2.1
abbrev rmX12_turnNow : Room := { frames := 3, cells := 0, slots := 0, locals := 67 }
noncomputable def fX12_turnNow_b39_body (N : Nat)  (g39 : Hs → Int32 → Int32 → Int32 → Option (Int32 × Hs)) (t : Nat) (h : Hs) (x2 : Int32) (x3 : Int32) (x4 : Int32) : Option (Int32 × Hs) :=
  if x3 ≤ x4 then (
  some (x3, h))
  else (rc 12 h (some t)).bind fun a2 =>
  (fX12_place N h a2 x2).bind fun r1 =>
  (rc 12 r1 (some t)).bind fun a4 =>
  (fX12_find N r1 a4 ).bind fun r3 =>
  (oI 12 23 r3 (some t)).bind fun v5 =>
  if v5 ≤ 0 then (
  (oI 12 21 r3 (some t)).bind fun v6 =>
  (qI 12 21 r3 (some t) (v6 + x2)).bind fun h7 =>
  (oI 12 22 h7 (some t)).bind fun v8 =>
  (qI 12 22 h7 (some t) (v8 + 1)).bind fun h9 =>
  (some (x4 + 1)).bind fun y10 =>
  g39 h9 x2 x3 y10)
  else (rc 12 r3 (some t)).bind fun a12 =>
  (fX12_place N r3 a12 (-x2)).bind fun r11 =>
  some (x4, r11)
noncomputable def fX12_turnNow_b39 (N : Nat)  (t : Nat) (n : Nat) : Hs → Int32 → Int32 → Int32 → Option (Int32 × Hs) := lp (fun _ _ _ _ => none) (fun g h x2 x3 x4 => fX12_turnNow_b39_body N  g t h x2 x3 x4) n
set_option maxHeartbeats 4000000 in
set_option maxRecDepth 20000 in
theorem wX12_turnNow_b39_body {p : Program} {l : Launch} {e : Env} {s : State} {m : MethodId} {args : Array Value} {below : List Frame} {meth : Method} {c : Code} {G : Gl} {N : Nat} {h : Hs} {r : Int32 × Hs}  {g39 : Hs → Int32 → Int32 → Int32 → Option (Int32 × Hs)} {t : Nat} {x2 : Int32} {x3 : Int32} {x4 : Int32} (C : Cx p s m args meth c cX12_turnNow RX12 5 G) (hret : meth.sig.returnType = (some .int))  (hg39 : ∀ (h : Hs) (x2 : Int32) (x3 : Int32) (x4 : Int32), g39 h x2 x3 x4 = some r → V p l e rmX12_turnNow s m args below meth c G 5 (MQ below (QcG G (some (.inl r.1)) r.2) args s rmX12_turnNow.cells rmX12_turnNow.slots (AG G)) h 0 0 39 [some (.inr (some t)), none, some (.inl x2), some (.inl x3), some (.inl x4)] []) (hf : fX12_turnNow_b39_body N  g39 t h x2 x3 x4 = some r) : V p l e rmX12_turnNow s m args below meth c G 5 (MQ below (QcG G (some (.inl r.1)) r.2) args s rmX12_turnNow.cells rmX12_turnNow.slots (AG G)) h 0 0 39 [some (.inr (some t)), none, some (.inl x2), some (.inl x3), some (.inl x4)] [] := by
  unfold fX12_turnNow_b39_body at hf
  refine r_iload C dX12_turnNow_39 rfl ?_
  refine r_iload_n C dX12_turnNow_41 rfl ?_
  refine r_icmp_ge (tgt := 96) C dX12_turnNow_42 (by decide) (fun hc => ?_) (fun hc => ?_)
  · have hf := ifT hf hc
    refine r_iload_n C dX12_turnNow_96 rfl ?_
    exact r_iretF C dX12_turnNow_97 hret hf (by decide) (by decide)
  · have hf := ifF hf hc
    refine r_aload_n C dX12_turnNow_45 rfl ?_
    refine r_iload_n C dX12_turnNow_46 rfl ?_
    obtain ⟨a2, ea2, hf⟩ := bS hf
    obtain ⟨r1, er1, hf⟩ := bS hf
    refine r_invV0 (As := [.inl x2]) (ci := 12) C dX12_turnNow_47 mcX12_place wd_1272 wd_1274 wp_40 rfl rfl (by decide) ⟨by decide, by decide⟩ ⟨by decide, by decide⟩ rfl (Nat.le_of_ble_eq_true rfl) ea2 (kX12_place l G er1) ?_
    refine r_aload_n C dX12_turnNow_50 rfl ?_
    obtain ⟨a4, ea4, hf⟩ := bS hf
    obtain ⟨r3, er3, hf⟩ := bS hf
    refine r_invV0 (As := []) (ci := 12) C dX12_turnNow_51 mcX12_find wd_1276 wd_1278 wp_41 rfl rfl (by decide) ⟨by decide, by decide⟩ ⟨by decide, by decide⟩ rfl (Nat.le_of_ble_eq_true rfl) ea4 (kX12_find l G er3) ?_
    refine r_aload_n C dX12_turnNow_54 rfl ?_
    obtain ⟨v5, ev5, hf⟩ := bS hf
    refine r_getI C dX12_turnNow_55 fl_X12_194 rfl ev5 ?_
    refine r_if_le (tgt := 70) C dX12_turnNow_58 (by decide) (fun hc => ?_) (fun hc => ?_)
    · have hf := ifT hf hc
      refine r_aload_n C dX12_turnNow_70 rfl ?_
      refine r_dup C dX12_turnNow_71 ?_
      obtain ⟨v6, ev6, hf⟩ := bS hf
      refine r_getI C dX12_turnNow_72 fl_X12_211 rfl ev6 ?_
      refine r_iload_n C dX12_turnNow_75 rfl ?_
      refine r_iadd C dX12_turnNow_76 ?_
      obtain ⟨h7, eh7, hf⟩ := bS hf
      refine r_putI C dX12_turnNow_77 fl_X12_211 (Or.inl fn_12_21) rfl eh7 ?_
      refine r_aload_n C dX12_turnNow_80 rfl ?_
      refine r_dup C dX12_turnNow_81 ?_
      obtain ⟨v8, ev8, hf⟩ := bS hf
      refine r_getI C dX12_turnNow_82 fl_X12_214 rfl ev8 ?_
      refine r_iconst (v := 1) C dX12_turnNow_85 (by decide) ?_
      refine r_iadd C dX12_turnNow_86 ?_
      obtain ⟨h9, eh9, hf⟩ := bS hf
      refine r_putI C dX12_turnNow_87 fl_X12_214 (Or.inl fn_12_22) rfl eh9 ?_
      obtain ⟨y10, ey10, hf⟩ := bS hf
      refine r_iincE (v := 1) C dX12_turnNow_90 rfl (by decide) (by decide) ey10 ?_
      refine r_goto (tgt := 39) C dX12_turnNow_93 (by decide) ?_
      exact V.sub (hg39 _ _ _ _ hf) (LW_s rfl (LW_n (LW_s rfl (LW_s rfl (LW_s rfl (LW_e))))))
    · have hf := ifF hf hc
      refine r_aload_n C dX12_turnNow_61 rfl ?_
      refine r_iload_n C dX12_turnNow_62 rfl ?_
      refine r_ineg C dX12_turnNow_63 ?_
      obtain ⟨a12, ea12, hf⟩ := bS hf
      obtain ⟨r11, er11, hf⟩ := bS hf
      refine r_invV0 (As := [.inl (-x2)]) (ci := 12) C dX12_turnNow_64 mcX12_place wd_1272 wd_1274 wp_40 rfl rfl (by decide) ⟨by decide, by decide⟩ ⟨by decide, by decide⟩ rfl (Nat.le_of_ble_eq_true rfl) ea12 (kX12_place l G er11) ?_
      refine r_iload C dX12_turnNow_67 rfl ?_
      exact r_iretF C dX12_turnNow_69 hret hf (by decide) (by decide)
theorem wX12_turnNow_b39 {p : Program} {l : Launch} {e : Env} {s : State} {m : MethodId} {args : Array Value} {below : List Frame} {meth : Method} {c : Code} {G : Gl} {N : Nat} {r : Int32 × Hs}  {t : Nat} (C : Cx p s m args meth c cX12_turnNow RX12 5 G) (hret : meth.sig.returnType = (some .int))  : ∀ (n : Nat) (h : Hs) (x2 : Int32) (x3 : Int32) (x4 : Int32), fX12_turnNow_b39 N  t n h x2 x3 x4 = some r → V p l e rmX12_turnNow s m args below meth c G 5 (MQ below (QcG G (some (.inl r.1)) r.2) args s rmX12_turnNow.cells rmX12_turnNow.slots (AG G)) h 0 0 39 [some (.inr (some t)), none, some (.inl x2), some (.inl x3), some (.inl x4)] [] := by
  intro n
  induction n with
  | zero => intro h x2 x3 x4 hf; exact absurd (show (none : Option (Int32 × Hs)) = some r from hf) (fun q => by cases q)
  | succ n ih => intro h x2 x3 x4 hf; exact wX12_turnNow_b39_body C hret  ih (show fX12_turnNow_b39_body N  (fX12_turnNow_b39 N  t n) t h x2 x3 x4 = some r from hf)
noncomputable def fX12_turnNow_b35 (N : Nat)  (t : Nat) (h : Hs) (x2 : Int32) (u0 : Int32) : Option (Int32 × Hs) :=
  fX12_turnNow_b39 N t N h x2 u0 0
set_option maxHeartbeats 4000000 in
set_option maxRecDepth 20000 in
theorem wX12_turnNow_b35 {p : Program} {l : Launch} {e : Env} {s : State} {m : MethodId} {args : Array Value} {below : List Frame} {meth : Method} {c : Code} {G : Gl} {N : Nat} {h : Hs} {r : Int32 × Hs}  {t : Nat} {x2 : Int32} {u0 : Int32} (C : Cx p s m args meth c cX12_turnNow RX12 5 G) (hret : meth.sig.returnType = (some .int))  (hf : fX12_turnNow_b35 N  t h x2 u0 = some r) : V p l e rmX12_turnNow s m args below meth c G 5 (MQ below (QcG G (some (.inl r.1)) r.2) args s rmX12_turnNow.cells rmX12_turnNow.slots (AG G)) h 0 0 35 [some (.inr (some t)), none, some (.inl x2), none, none] [.inl u0] := by
  unfold fX12_turnNow_b35 at hf
  refine r_istore_n C dX12_turnNow_35 (by decide) ?_
  refine r_iconst (v := 0) C dX12_turnNow_36 (by decide) ?_
  refine r_istore C dX12_turnNow_37 (by decide) ?_
  exact V.sub (wX12_turnNow_b39 C hret N _ _ _ _ hf) (LW_s rfl (LW_n (LW_s rfl (LW_s rfl (LW_s rfl (LW_e))))))
noncomputable def fX12_turnNow_b24 (N : Nat)  (t : Nat) (h : Hs) (x1 : Int32) (u0 : Int32) : Option (Int32 × Hs) :=
  if 0 ≤ x1 then (
  fX12_turnNow_b35 N t h u0 x1)
  else fX12_turnNow_b35 N t h u0 (-x1)
set_option maxHeartbeats 4000000 in
set_option maxRecDepth 20000 in
theorem wX12_turnNow_b24 {p : Program} {l : Launch} {e : Env} {s : State} {m : MethodId} {args : Array Value} {below : List Frame} {meth : Method} {c : Code} {G : Gl} {N : Nat} {h : Hs} {r : Int32 × Hs}  {t : Nat} {x1 : Int32} {u0 : Int32} (C : Cx p s m args meth c cX12_turnNow RX12 5 G) (hret : meth.sig.returnType = (some .int))  (hf : fX12_turnNow_b24 N  t h x1 u0 = some r) : V p l e rmX12_turnNow s m args below meth c G 5 (MQ below (QcG G (some (.inl r.1)) r.2) args s rmX12_turnNow.cells rmX12_turnNow.slots (AG G)) h 0 0 24 [some (.inr (some t)), some (.inl x1), none, none, none] [.inl u0] := by
  unfold fX12_turnNow_b24 at hf
  refine r_istore_n C dX12_turnNow_24 (by decide) ?_
  refine r_iload_n C dX12_turnNow_25 rfl ?_
  refine r_if_ge (tgt := 34) C dX12_turnNow_26 (by decide) (fun hc => ?_) (fun hc => ?_)
  · have hf := ifT hf hc
    refine r_iload_n C dX12_turnNow_34 rfl ?_
    exact V.sub (wX12_turnNow_b35 C hret hf) (LW_s rfl (LW_n (LW_s rfl (LW_n (LW_n (LW_e))))))
  · have hf := ifF hf hc
    refine r_iload_n C dX12_turnNow_29 rfl ?_
    refine r_ineg C dX12_turnNow_30 ?_
    refine r_goto (tgt := 35) C dX12_turnNow_31 (by decide) ?_
    exact V.sub (wX12_turnNow_b35 C hret hf) (LW_s rfl (LW_n (LW_s rfl (LW_n (LW_n (LW_e))))))
noncomputable def fX12_turnNow (N : Nat) (h : Hs) (t : Nat) (p1 : Int32) : Option (Int32 × Hs) :=
  (qI 12 23 h (some t) 0).bind fun h1 =>
  (qI 12 24 h1 (some t) (-1)).bind fun h2 =>
  (qI 12 25 h2 (some t) (-1)).bind fun h3 =>
  if 0 ≤ p1 then (
  fX12_turnNow_b24 N t h3 p1 1)
  else fX12_turnNow_b24 N t h3 p1 (-1)
set_option maxHeartbeats 4000000 in
set_option maxRecDepth 20000 in
theorem kX12_turnNow (l : Launch) (G : Gl) {N : Nat} {h : Hs} {t : Nat} {p1 : Int32} {r : Int32 × Hs} (hf : fX12_turnNow N h t p1 = some r) : CT l G yX12_turnNow cX12_turnNow 5 (some .int) rmX12_turnNow [.inr (some t), .inl p1] h (some (.inl r.1)) r.2 := by
  refine mk_CT (by decide) (Nat.le_of_ble_eq_true rfl) ?_
  intro p e s m args below meth c C hret hin
  unfold fX12_turnNow at hf
  refine r_aload_n C dX12_turnNow_0 rfl ?_
  refine r_iconst (v := 0) C dX12_turnNow_1 (by decide) ?_
  obtain ⟨h1, eh1, hf⟩ := bS hf
  refine r_putI C dX12_turnNow_2 fl_X12_194 (Or.inl fn_12_23) rfl eh1 ?_
  refine r_aload_n C dX12_turnNow_5 rfl ?_
  refine r_iconst (v := -1) C dX12_turnNow_6 (by decide) ?_
  obtain ⟨h2, eh2, hf⟩ := bS hf
  refine r_putI C dX12_turnNow_7 fl_X12_64 (Or.inl fn_12_24) rfl eh2 ?_
  refine r_aload_n C dX12_turnNow_10 rfl ?_
  refine r_iconst (v := -1) C dX12_turnNow_11 (by decide) ?_
  obtain ⟨h3, eh3, hf⟩ := bS hf
  refine r_putI C dX12_turnNow_12 fl_X12_67 (Or.inl fn_12_25) rfl eh3 ?_
  refine r_iload_n C dX12_turnNow_15 rfl ?_
  refine r_if_ge (tgt := 23) C dX12_turnNow_16 (by decide) (fun hc => ?_) (fun hc => ?_)
  · have hf := ifT hf hc
    refine r_iconst (v := 1) C dX12_turnNow_23 (by decide) ?_
    exact V.sub (wX12_turnNow_b24 C hret hf) (LW_s rfl (LW_s rfl (LW_n (LW_n (LW_n (LW_e))))))
  · have hf := ifF hf hc
    refine r_iconst (v := -1) C dX12_turnNow_19 (by decide) ?_
    refine r_goto (tgt := 24) C dX12_turnNow_20 (by decide) ?_
    exact V.sub (wX12_turnNow_b24 C hret hf) (LW_s rfl (LW_s rfl (LW_n (LW_n (LW_n (LW_e))))))

theorem dgX12_isTurn_0 : (decode cX12_isTurn 0 = .ok (.iload_n 0, 1)) ∧ (decode cX12_isTurn 1 = .ok (.sipush (-9999), 3)) ∧ (decode cX12_isTurn 4 = .ok (.sipush 9999, 3)) ∧ (decode cX12_isTurn 7 = .ok (.invokestatic 149, 3)) ∧ (decode cX12_isTurn 10 = .ok (.ireturn, 1)) ∧ True := dkW [(0, .iload_n 0, 1), (1, .sipush (-9999), 3), (4, .sipush 9999, 3), (7, .invokestatic 149, 3), (10, .ireturn, 1)] 0 (by decide +kernel)
theorem dX12_isTurn_0 : decode cX12_isTurn 0 = .ok (.iload_n 0, 1) := dgX12_isTurn_0.1
theorem dX12_isTurn_1 : decode cX12_isTurn 1 = .ok (.sipush (-9999), 3) := dgX12_isTurn_0.2.1
theorem dX12_isTurn_4 : decode cX12_isTurn 4 = .ok (.sipush 9999, 3) := dgX12_isTurn_0.2.2.1
theorem dX12_isTurn_7 : decode cX12_isTurn 7 = .ok (.invokestatic 149, 3) := dgX12_isTurn_0.2.2.2.1
theorem dX12_isTurn_10 : decode cX12_isTurn 10 = .ok (.ireturn, 1) := dgX12_isTurn_0.2.2.2.2.1
abbrev rmX12_isTurn : Room := { frames := 1, cells := 0, slots := 0, locals := 22 }
noncomputable def fX12_isTurn (N : Nat) (h : Hs) (p0 : Int32) : Option (Int32 × Hs) :=
  (fX12_in N h p0 (-9999) 9999).bind fun r1 =>
  (zc r1.1).bind fun z2 =>
  some (z2, r1.2)
set_option maxHeartbeats 4000000 in
set_option maxRecDepth 20000 in
theorem kX12_isTurn (l : Launch) (G : Gl) {N : Nat} {h : Hs} {p0 : Int32} {r : Int32 × Hs} (hf : fX12_isTurn N h p0 = some r) : CT l G yX12_isTurn cX12_isTurn 1 (some .boolean) rmX12_isTurn [.inl p0] h (some (.inl r.1)) r.2 := by
  refine mk_CT (by decide) (Nat.le_of_ble_eq_true rfl) ?_
  intro p e s m args below meth c C hret hin
  unfold fX12_isTurn at hf
  refine r_iload_n C dX12_isTurn_0 rfl ?_
  refine r_sipush (v := -9999) C dX12_isTurn_1 (by decide) ?_
  refine r_sipush (v := 9999) C dX12_isTurn_4 (by decide) ?_
  obtain ⟨r1, er1, hf⟩ := bS hf
  refine r_invS1 (As := [.inl p0, .inl (-9999), .inl 9999]) C dX12_isTurn_7 mcX12_in wd_1185 wd_1186 ⟨by decide, by decide⟩ ⟨by decide, by decide⟩ rfl (Nat.le_of_ble_eq_true rfl) (kX12_in l G er1) ?_
  obtain ⟨z2, ez2, hf⟩ := bS hf
  exact r_zretF C dX12_isTurn_10 hret ez2 hf (by decide) (by decide)

theorem dgX12_turn_0 : (decode cX12_turn 0 = .ok (.iload_n 1, 1)) ∧ (decode cX12_turn 1 = .ok (.invokestatic 217, 3)) ∧ (decode cX12_turn 4 = .ok (.ifCond .ne 5, 3)) ∧ True := dkW [(0, .iload_n 1, 1), (1, .invokestatic 217, 3), (4, .ifCond .ne 5, 3)] 0 (by decide +kernel)
theorem dX12_turn_0 : decode cX12_turn 0 = .ok (.iload_n 1, 1) := dgX12_turn_0.1
theorem dX12_turn_1 : decode cX12_turn 1 = .ok (.invokestatic 217, 3) := dgX12_turn_0.2.1
theorem dX12_turn_4 : decode cX12_turn 4 = .ok (.ifCond .ne 5, 3) := dgX12_turn_0.2.2.1
theorem dX12_turn_7 : decode cX12_turn 7 = .ok (.iconst (-1), 1) := by decide +kernel
theorem dgX12_turn_8 : (decode cX12_turn 8 = .ok (.ireturn, 1)) ∧ (decode cX12_turn 9 = .ok (.aload_n 0, 1)) ∧ (decode cX12_turn 10 = .ok (.iload_n 1, 1)) ∧ (decode cX12_turn 11 = .ok (.invokevirtual 220, 3)) ∧ (decode cX12_turn 14 = .ok (.istore_n 2, 1)) ∧ (decode cX12_turn 15 = .ok (.aload_n 0, 1)) ∧ (decode cX12_turn 16 = .ok (.aload_n 0, 1)) ∧ (decode cX12_turn 17 = .ok (.getfield 162, 3)) ∧ (decode cX12_turn 20 = .ok (.ifCond .eq 11, 3)) ∧ (decode cX12_turn 23 = .ok (.iload_n 2, 1)) ∧ (decode cX12_turn 24 = .ok (.ifCond .ne 7, 3)) ∧ (decode cX12_turn 27 = .ok (.iconst 1, 1)) ∧ True := dkW [(8, .ireturn, 1), (9, .aload_n 0, 1), (10, .iload_n 1, 1), (11, .invokevirtual 220, 3), (14, .istore_n 2, 1), (15, .aload_n 0, 1), (16, .aload_n 0, 1), (17, .getfield 162, 3), (20, .ifCond .eq 11, 3), (23, .iload_n 2, 1), (24, .ifCond .ne 7, 3), (27, .iconst 1, 1)] 8 (by decide +kernel)
theorem dX12_turn_8 : decode cX12_turn 8 = .ok (.ireturn, 1) := dgX12_turn_8.1
theorem dX12_turn_9 : decode cX12_turn 9 = .ok (.aload_n 0, 1) := dgX12_turn_8.2.1
theorem dX12_turn_10 : decode cX12_turn 10 = .ok (.iload_n 1, 1) := dgX12_turn_8.2.2.1
theorem dX12_turn_11 : decode cX12_turn 11 = .ok (.invokevirtual 220, 3) := dgX12_turn_8.2.2.2.1
theorem dX12_turn_14 : decode cX12_turn 14 = .ok (.istore_n 2, 1) := dgX12_turn_8.2.2.2.2.1
theorem dX12_turn_15 : decode cX12_turn 15 = .ok (.aload_n 0, 1) := dgX12_turn_8.2.2.2.2.2.1
theorem dX12_turn_16 : decode cX12_turn 16 = .ok (.aload_n 0, 1) := dgX12_turn_8.2.2.2.2.2.2.1
theorem dX12_turn_17 : decode cX12_turn 17 = .ok (.getfield 162, 3) := dgX12_turn_8.2.2.2.2.2.2.2.1
theorem dX12_turn_20 : decode cX12_turn 20 = .ok (.ifCond .eq 11, 3) := dgX12_turn_8.2.2.2.2.2.2.2.2.1
theorem dX12_turn_23 : decode cX12_turn 23 = .ok (.iload_n 2, 1) := dgX12_turn_8.2.2.2.2.2.2.2.2.2.1
theorem dX12_turn_24 : decode cX12_turn 24 = .ok (.ifCond .ne 7, 3) := dgX12_turn_8.2.2.2.2.2.2.2.2.2.2.1
theorem dX12_turn_27 : decode cX12_turn 27 = .ok (.iconst 1, 1) := dgX12_turn_8.2.2.2.2.2.2.2.2.2.2.2.1
theorem dgX12_turn_28 : (decode cX12_turn 28 = .ok (.goto 4, 3)) ∧ (decode cX12_turn 31 = .ok (.iconst 0, 1)) ∧ (decode cX12_turn 32 = .ok (.putfield 162, 3)) ∧ (decode cX12_turn 35 = .ok (.iload_n 2, 1)) ∧ (decode cX12_turn 36 = .ok (.ireturn, 1)) ∧ True := dkW [(28, .goto 4, 3), (31, .iconst 0, 1), (32, .putfield 162, 3), (35, .iload_n 2, 1), (36, .ireturn, 1)] 28 (by decide +kernel)
theorem dX12_turn_28 : decode cX12_turn 28 = .ok (.goto 4, 3) := dgX12_turn_28.1
theorem dX12_turn_31 : decode cX12_turn 31 = .ok (.iconst 0, 1) := dgX12_turn_28.2.1
theorem dX12_turn_32 : decode cX12_turn 32 = .ok (.putfield 162, 3) := dgX12_turn_28.2.2.1
theorem dX12_turn_35 : decode cX12_turn 35 = .ok (.iload_n 2, 1) := dgX12_turn_28.2.2.2.1
theorem dX12_turn_36 : decode cX12_turn 36 = .ok (.ireturn, 1) := dgX12_turn_28.2.2.2.2.1
abbrev rmX12_turn : Room := { frames := 4, cells := 0, slots := 0, locals := 91 }
noncomputable def fX12_turn_b32 (N : Nat)  (t : Nat) (h : Hs) (x2 : Int32) (q0 : Option Nat) (u1 : Int32) : Option (Int32 × Hs) :=
  (qZ 12 43 h q0 u1).bind fun h1 =>
  some (x2, h1)
set_option maxHeartbeats 4000000 in
set_option maxRecDepth 20000 in
theorem wX12_turn_b32 {p : Program} {l : Launch} {e : Env} {s : State} {m : MethodId} {args : Array Value} {below : List Frame} {meth : Method} {c : Code} {G : Gl} {N : Nat} {h : Hs} {r : Int32 × Hs}  {t : Nat} {x2 : Int32} {q0 : Option Nat} {u1 : Int32} (C : Cx p s m args meth c cX12_turn RX12 3 G) (hret : meth.sig.returnType = (some .int))  (hf : fX12_turn_b32 N  t h x2 q0 u1 = some r) : V p l e rmX12_turn s m args below meth c G 3 (MQ below (QcG G (some (.inl r.1)) r.2) args s rmX12_turn.cells rmX12_turn.slots (AG G)) h 0 0 32 [some (.inr (some t)), none, some (.inl x2)] [.inl u1, .inr q0] := by
  unfold fX12_turn_b32 at hf
  obtain ⟨h1, eh1, hf⟩ := bS hf
  refine r_putZ C dX12_turn_32 fl_X12_162 (Or.inl fn_12_43) rfl eh1 ?_
  refine r_iload_n C dX12_turn_35 rfl ?_
  exact r_iretF C dX12_turn_36 hret hf (by decide) (by decide)
noncomputable def fX12_turn_b31 (N : Nat)  (t : Nat) (h : Hs) (x2 : Int32) (q0 : Option Nat) : Option (Int32 × Hs) :=
  fX12_turn_b32 N t h x2 q0 0
set_option maxHeartbeats 4000000 in
set_option maxRecDepth 20000 in
theorem wX12_turn_b31 {p : Program} {l : Launch} {e : Env} {s : State} {m : MethodId} {args : Array Value} {below : List Frame} {meth : Method} {c : Code} {G : Gl} {N : Nat} {h : Hs} {r : Int32 × Hs}  {t : Nat} {x2 : Int32} {q0 : Option Nat} (C : Cx p s m args meth c cX12_turn RX12 3 G) (hret : meth.sig.returnType = (some .int))  (hf : fX12_turn_b31 N  t h x2 q0 = some r) : V p l e rmX12_turn s m args below meth c G 3 (MQ below (QcG G (some (.inl r.1)) r.2) args s rmX12_turn.cells rmX12_turn.slots (AG G)) h 0 0 31 [some (.inr (some t)), none, some (.inl x2)] [.inr q0] := by
  unfold fX12_turn_b31 at hf
  refine r_iconst (v := 0) C dX12_turn_31 (by decide) ?_
  exact V.sub (wX12_turn_b32 C hret hf) (LW_s rfl (LW_n (LW_s rfl (LW_e))))
noncomputable def fX12_turn (N : Nat) (h : Hs) (t : Nat) (p1 : Int32) : Option (Int32 × Hs) :=
  (fX12_isTurn N h p1).bind fun r1 =>
  if r1.1 = 0 then (
  some ((-1), r1.2))
  else (rc 12 r1.2 (some t)).bind fun a3 =>
  (fX12_turnNow N r1.2 a3 p1).bind fun r2 =>
  (oI 12 43 r2.2 (some t)).bind fun v4 =>
  if v4 = 0 then (
  fX12_turn_b31 N t r2.2 r2.1 (some t))
  else if r2.1 = 0 then (
  fX12_turn_b32 N t r2.2 r2.1 (some t) 1)
  else fX12_turn_b31 N t r2.2 r2.1 (some t)
set_option maxHeartbeats 4000000 in
set_option maxRecDepth 20000 in
theorem kX12_turn (l : Launch) (G : Gl) {N : Nat} {h : Hs} {t : Nat} {p1 : Int32} {r : Int32 × Hs} (hf : fX12_turn N h t p1 = some r) : CT l G yX12_turn cX12_turn 3 (some .int) rmX12_turn [.inr (some t), .inl p1] h (some (.inl r.1)) r.2 := by
  refine mk_CT (by decide) (Nat.le_of_ble_eq_true rfl) ?_
  intro p e s m args below meth c C hret hin
  unfold fX12_turn at hf
  refine r_iload_n C dX12_turn_0 rfl ?_
  obtain ⟨r1, er1, hf⟩ := bS hf
  refine r_invS1 (As := [.inl p1]) C dX12_turn_1 mcX12_isTurn wd_1265 wd_1266 ⟨by decide, by decide⟩ ⟨by decide, by decide⟩ rfl (Nat.le_of_ble_eq_true rfl) (kX12_isTurn l G er1) ?_
  refine r_if_ne (tgt := 9) C dX12_turn_4 (by decide) (fun hc => ?_) (fun hc => ?_)
  · have hf := ifF hf hc
    refine r_aload_n C dX12_turn_9 rfl ?_
    refine r_iload_n C dX12_turn_10 rfl ?_
    obtain ⟨a3, ea3, hf⟩ := bS hf
    obtain ⟨r2, er2, hf⟩ := bS hf
    refine r_invV1 (As := [.inl p1]) (ci := 12) C dX12_turn_11 mcX12_turnNow wd_1268 wd_1270 wp_39 rfl rfl (by decide) ⟨by decide, by decide⟩ ⟨by decide, by decide⟩ rfl (Nat.le_of_ble_eq_true rfl) ea3 (kX12_turnNow l G er2) ?_
    refine r_istore_n C dX12_turn_14 (by decide) ?_
    refine r_aload_n C dX12_turn_15 rfl ?_
    refine r_aload_n C dX12_turn_16 rfl ?_
    obtain ⟨v4, ev4, hf⟩ := bS hf
    refine r_getI C dX12_turn_17 fl_X12_162 rfl ev4 ?_
    refine r_if_eq (tgt := 31) C dX12_turn_20 (by decide) (fun hc => ?_) (fun hc => ?_)
    · have hf := ifT hf hc
      exact V.sub (wX12_turn_b31 C hret hf) (LW_s rfl (LW_n (LW_s rfl (LW_e))))
    · have hf := ifF hf hc
      refine r_iload_n C dX12_turn_23 rfl ?_
      refine r_if_ne (tgt := 31) C dX12_turn_24 (by decide) (fun hc => ?_) (fun hc => ?_)
      · have hf := ifF hf hc
        exact V.sub (wX12_turn_b31 C hret hf) (LW_s rfl (LW_n (LW_s rfl (LW_e))))
      · have hf := ifT hf hc
        refine r_iconst (v := 1) C dX12_turn_27 (by decide) ?_
        refine r_goto (tgt := 32) C dX12_turn_28 (by decide) ?_
        exact V.sub (wX12_turn_b32 C hret hf) (LW_s rfl (LW_n (LW_s rfl (LW_e))))
  · have hf := ifT hf hc
    refine r_iconst (v := -1) C dX12_turn_7 (by decide) ?_
    exact r_iretF C dX12_turn_8 hret hf (by decide) (by decide)

theorem dgX12_stopped_0 : (decode cX12_stopped 0 = .ok (.iload_n 1, 1)) ∧ True := dkW [(0, .iload_n 1, 1)] 0 (by decide +kernel)
theorem dX12_stopped_0 : decode cX12_stopped 0 = .ok (.iload_n 1, 1) := dgX12_stopped_0.1
theorem dX12_stopped_1 : decode cX12_stopped 1 = .ok (.tableswitch 42 0 2 #[27, 32, 37], 27) := by decide +kernel
theorem dgX12_stopped_28 : (decode cX12_stopped 28 = .ok (.aload_n 0, 1)) ∧ (decode cX12_stopped 29 = .ok (.getfield 194, 3)) ∧ (decode cX12_stopped 32 = .ok (.ireturn, 1)) ∧ (decode cX12_stopped 33 = .ok (.aload_n 0, 1)) ∧ (decode cX12_stopped 34 = .ok (.getfield 64, 3)) ∧ (decode cX12_stopped 37 = .ok (.ireturn, 1)) ∧ (decode cX12_stopped 38 = .ok (.aload_n 0, 1)) ∧ (decode cX12_stopped 39 = .ok (.getfield 67, 3)) ∧ (decode cX12_stopped 42 = .ok (.ireturn, 1)) ∧ True := dkW [(28, .aload_n 0, 1), (29, .getfield 194, 3), (32, .ireturn, 1), (33, .aload_n 0, 1), (34, .getfield 64, 3), (37, .ireturn, 1), (38, .aload_n 0, 1), (39, .getfield 67, 3), (42, .ireturn, 1)] 28 (by decide +kernel)
theorem dX12_stopped_28 : decode cX12_stopped 28 = .ok (.aload_n 0, 1) := dgX12_stopped_28.1
theorem dX12_stopped_29 : decode cX12_stopped 29 = .ok (.getfield 194, 3) := dgX12_stopped_28.2.1
theorem dX12_stopped_32 : decode cX12_stopped 32 = .ok (.ireturn, 1) := dgX12_stopped_28.2.2.1
theorem dX12_stopped_33 : decode cX12_stopped 33 = .ok (.aload_n 0, 1) := dgX12_stopped_28.2.2.2.1
theorem dX12_stopped_34 : decode cX12_stopped 34 = .ok (.getfield 64, 3) := dgX12_stopped_28.2.2.2.2.1
theorem dX12_stopped_37 : decode cX12_stopped 37 = .ok (.ireturn, 1) := dgX12_stopped_28.2.2.2.2.2.1
theorem dX12_stopped_38 : decode cX12_stopped 38 = .ok (.aload_n 0, 1) := dgX12_stopped_28.2.2.2.2.2.2.1
theorem dX12_stopped_39 : decode cX12_stopped 39 = .ok (.getfield 67, 3) := dgX12_stopped_28.2.2.2.2.2.2.2.1
theorem dX12_stopped_42 : decode cX12_stopped 42 = .ok (.ireturn, 1) := dgX12_stopped_28.2.2.2.2.2.2.2.2.1
theorem dX12_stopped_43 : decode cX12_stopped 43 = .ok (.iconst (-1), 1) := by decide +kernel
theorem dgX12_stopped_44 : (decode cX12_stopped 44 = .ok (.ireturn, 1)) ∧ True := dkW [(44, .ireturn, 1)] 44 (by decide +kernel)
theorem dX12_stopped_44 : decode cX12_stopped 44 = .ok (.ireturn, 1) := dgX12_stopped_44.1
abbrev rmX12_stopped : Room := { frames := 0, cells := 0, slots := 0, locals := 0 }
noncomputable def fX12_stopped (N : Nat) (h : Hs) (t : Nat) (p1 : Int32) : Option (Int32 × Hs) :=
  if p1 = 0 then (
  (oI 12 23 h (some t)).bind fun v1 =>
  some (v1, h))
  else if p1 = 1 then (
  (oI 12 24 h (some t)).bind fun v2 =>
  some (v2, h))
  else if p1 = 2 then (
  (oI 12 25 h (some t)).bind fun v3 =>
  some (v3, h))
  else some ((-1), h)
set_option maxHeartbeats 4000000 in
set_option maxRecDepth 20000 in
theorem kX12_stopped (l : Launch) (G : Gl) {N : Nat} {h : Hs} {t : Nat} {p1 : Int32} {r : Int32 × Hs} (hf : fX12_stopped N h t p1 = some r) : CT l G yX12_stopped cX12_stopped 2 (some .int) rmX12_stopped [.inr (some t), .inl p1] h (some (.inl r.1)) r.2 := by
  refine mk_CT (by decide) (Nat.le_of_ble_eq_true rfl) ?_
  intro p e s m args below meth c C hret hin
  unfold fX12_stopped at hf
  refine r_iload_n C dX12_stopped_0 rfl ?_
  by_cases k0 : p1 = 0
  · have hf := ifT hf k0
    refine r_tabIn (tgt := 28) (off := 27) C dX12_stopped_1 (by rw [k0]; decide) (by rw [k0]; decide) (by rw [k0]; rfl) (by decide) ?_
    refine r_aload_n C dX12_stopped_28 rfl ?_
    obtain ⟨v1, ev1, hf⟩ := bS hf
    refine r_getI C dX12_stopped_29 fl_X12_194 rfl ev1 ?_
    exact r_iretF C dX12_stopped_32 hret hf (by decide) (by decide)
  · have hf := ifF hf k0
    by_cases k1 : p1 = 1
    · have hf := ifT hf k1
      refine r_tabIn (tgt := 33) (off := 32) C dX12_stopped_1 (by rw [k1]; decide) (by rw [k1]; decide) (by rw [k1]; rfl) (by decide) ?_
      refine r_aload_n C dX12_stopped_33 rfl ?_
      obtain ⟨v2, ev2, hf⟩ := bS hf
      refine r_getI C dX12_stopped_34 fl_X12_64 rfl ev2 ?_
      exact r_iretF C dX12_stopped_37 hret hf (by decide) (by decide)
    · have hf := ifF hf k1
      by_cases k2 : p1 = 2
      · have hf := ifT hf k2
        refine r_tabIn (tgt := 38) (off := 37) C dX12_stopped_1 (by rw [k2]; decide) (by rw [k2]; decide) (by rw [k2]; rfl) (by decide) ?_
        refine r_aload_n C dX12_stopped_38 rfl ?_
        obtain ⟨v3, ev3, hf⟩ := bS hf
        refine r_getI C dX12_stopped_39 fl_X12_67 rfl ev3 ?_
        exact r_iretF C dX12_stopped_42 hret hf (by decide) (by decide)
      · have hf := ifF hf k2
        refine r_tabOut (tgt := 43) C dX12_stopped_1 (sw_out (lo := 0) (hi := 2) [0, 1, 2] (by decide) (List.forall_mem_cons.mpr ⟨k0, List.forall_mem_cons.mpr ⟨k1, List.forall_mem_cons.mpr ⟨k2, fun _ q => absurd q List.not_mem_nil⟩⟩⟩)) (by decide) ?_
        refine r_iconst (v := -1) C dX12_stopped_43 (by decide) ?_
        exact r_iretF C dX12_stopped_44 hret hf (by decide) (by decide)

theorem dgX12_free_0 : (decode cX12_free 0 = .ok (.iload_n 1, 1)) ∧ (decode cX12_free 1 = .ok (.invokestatic 217, 3)) ∧ (decode cX12_free 4 = .ok (.ifCond .ne 5, 3)) ∧ True := dkW [(0, .iload_n 1, 1), (1, .invokestatic 217, 3), (4, .ifCond .ne 5, 3)] 0 (by decide +kernel)
theorem dX12_free_0 : decode cX12_free 0 = .ok (.iload_n 1, 1) := dgX12_free_0.1
theorem dX12_free_1 : decode cX12_free 1 = .ok (.invokestatic 217, 3) := dgX12_free_0.2.1
theorem dX12_free_4 : decode cX12_free 4 = .ok (.ifCond .ne 5, 3) := dgX12_free_0.2.2.1
theorem dX12_free_7 : decode cX12_free 7 = .ok (.iconst (-1), 1) := by decide +kernel
theorem dgX12_free_8 : (decode cX12_free 8 = .ok (.ireturn, 1)) ∧ (decode cX12_free 9 = .ok (.aload_n 0, 1)) ∧ (decode cX12_free 10 = .ok (.getfield 194, 3)) ∧ (decode cX12_free 13 = .ok (.istore_n 2, 1)) ∧ (decode cX12_free 14 = .ok (.aload_n 0, 1)) ∧ (decode cX12_free 15 = .ok (.getfield 64, 3)) ∧ (decode cX12_free 18 = .ok (.istore_n 3, 1)) ∧ (decode cX12_free 19 = .ok (.aload_n 0, 1)) ∧ (decode cX12_free 20 = .ok (.getfield 67, 3)) ∧ (decode cX12_free 23 = .ok (.istore 4, 2)) ∧ (decode cX12_free 25 = .ok (.aload_n 0, 1)) ∧ (decode cX12_free 26 = .ok (.getfield 214, 3)) ∧ True := dkW [(8, .ireturn, 1), (9, .aload_n 0, 1), (10, .getfield 194, 3), (13, .istore_n 2, 1), (14, .aload_n 0, 1), (15, .getfield 64, 3), (18, .istore_n 3, 1), (19, .aload_n 0, 1), (20, .getfield 67, 3), (23, .istore 4, 2), (25, .aload_n 0, 1), (26, .getfield 214, 3)] 8 (by decide +kernel)
theorem dX12_free_8 : decode cX12_free 8 = .ok (.ireturn, 1) := dgX12_free_8.1
theorem dX12_free_9 : decode cX12_free 9 = .ok (.aload_n 0, 1) := dgX12_free_8.2.1
theorem dX12_free_10 : decode cX12_free 10 = .ok (.getfield 194, 3) := dgX12_free_8.2.2.1
theorem dX12_free_13 : decode cX12_free 13 = .ok (.istore_n 2, 1) := dgX12_free_8.2.2.2.1
theorem dX12_free_14 : decode cX12_free 14 = .ok (.aload_n 0, 1) := dgX12_free_8.2.2.2.2.1
theorem dX12_free_15 : decode cX12_free 15 = .ok (.getfield 64, 3) := dgX12_free_8.2.2.2.2.2.1
theorem dX12_free_18 : decode cX12_free 18 = .ok (.istore_n 3, 1) := dgX12_free_8.2.2.2.2.2.2.1
theorem dX12_free_19 : decode cX12_free 19 = .ok (.aload_n 0, 1) := dgX12_free_8.2.2.2.2.2.2.2.1
theorem dX12_free_20 : decode cX12_free 20 = .ok (.getfield 67, 3) := dgX12_free_8.2.2.2.2.2.2.2.2.1
theorem dX12_free_23 : decode cX12_free 23 = .ok (.istore 4, 2) := dgX12_free_8.2.2.2.2.2.2.2.2.2.1
theorem dX12_free_25 : decode cX12_free 25 = .ok (.aload_n 0, 1) := dgX12_free_8.2.2.2.2.2.2.2.2.2.2.1
theorem dX12_free_26 : decode cX12_free 26 = .ok (.getfield 214, 3) := dgX12_free_8.2.2.2.2.2.2.2.2.2.2.2.1
theorem dgX12_free_29 : (decode cX12_free 29 = .ok (.istore 5, 2)) ∧ (decode cX12_free 31 = .ok (.aload_n 0, 1)) ∧ (decode cX12_free 32 = .ok (.iload_n 1, 1)) ∧ (decode cX12_free 33 = .ok (.invokevirtual 220, 3)) ∧ (decode cX12_free 36 = .ok (.istore 6, 2)) ∧ (decode cX12_free 38 = .ok (.iload_n 1, 1)) ∧ (decode cX12_free 39 = .ok (.ifCond .ge 7, 3)) ∧ True := dkW [(29, .istore 5, 2), (31, .aload_n 0, 1), (32, .iload_n 1, 1), (33, .invokevirtual 220, 3), (36, .istore 6, 2), (38, .iload_n 1, 1), (39, .ifCond .ge 7, 3)] 29 (by decide +kernel)
theorem dX12_free_29 : decode cX12_free 29 = .ok (.istore 5, 2) := dgX12_free_29.1
theorem dX12_free_31 : decode cX12_free 31 = .ok (.aload_n 0, 1) := dgX12_free_29.2.1
theorem dX12_free_32 : decode cX12_free 32 = .ok (.iload_n 1, 1) := dgX12_free_29.2.2.1
theorem dX12_free_33 : decode cX12_free 33 = .ok (.invokevirtual 220, 3) := dgX12_free_29.2.2.2.1
theorem dX12_free_36 : decode cX12_free 36 = .ok (.istore 6, 2) := dgX12_free_29.2.2.2.2.1
theorem dX12_free_38 : decode cX12_free 38 = .ok (.iload_n 1, 1) := dgX12_free_29.2.2.2.2.2.1
theorem dX12_free_39 : decode cX12_free 39 = .ok (.ifCond .ge 7, 3) := dgX12_free_29.2.2.2.2.2.2.1
theorem dX12_free_42 : decode cX12_free 42 = .ok (.iconst (-1), 1) := by decide +kernel
theorem dgX12_free_43 : (decode cX12_free 43 = .ok (.goto 4, 3)) ∧ (decode cX12_free 46 = .ok (.iconst 1, 1)) ∧ (decode cX12_free 47 = .ok (.istore 7, 2)) ∧ (decode cX12_free 49 = .ok (.iconst 0, 1)) ∧ (decode cX12_free 50 = .ok (.istore 8, 2)) ∧ (decode cX12_free 52 = .ok (.iload 8, 2)) ∧ (decode cX12_free 54 = .ok (.iload 6, 2)) ∧ (decode cX12_free 56 = .ok (.if_icmp .ge 16, 3)) ∧ (decode cX12_free 59 = .ok (.aload_n 0, 1)) ∧ (decode cX12_free 60 = .ok (.iload 7, 2)) ∧ (decode cX12_free 62 = .ok (.ineg, 1)) ∧ (decode cX12_free 63 = .ok (.invokevirtual 204, 3)) ∧ True := dkW [(43, .goto 4, 3), (46, .iconst 1, 1), (47, .istore 7, 2), (49, .iconst 0, 1), (50, .istore 8, 2), (52, .iload 8, 2), (54, .iload 6, 2), (56, .if_icmp .ge 16, 3), (59, .aload_n 0, 1), (60, .iload 7, 2), (62, .ineg, 1), (63, .invokevirtual 204, 3)] 43 (by decide +kernel)
theorem dX12_free_43 : decode cX12_free 43 = .ok (.goto 4, 3) := dgX12_free_43.1
theorem dX12_free_46 : decode cX12_free 46 = .ok (.iconst 1, 1) := dgX12_free_43.2.1
theorem dX12_free_47 : decode cX12_free 47 = .ok (.istore 7, 2) := dgX12_free_43.2.2.1
theorem dX12_free_49 : decode cX12_free 49 = .ok (.iconst 0, 1) := dgX12_free_43.2.2.2.1
theorem dX12_free_50 : decode cX12_free 50 = .ok (.istore 8, 2) := dgX12_free_43.2.2.2.2.1
theorem dX12_free_52 : decode cX12_free 52 = .ok (.iload 8, 2) := dgX12_free_43.2.2.2.2.2.1
theorem dX12_free_54 : decode cX12_free 54 = .ok (.iload 6, 2) := dgX12_free_43.2.2.2.2.2.2.1
theorem dX12_free_56 : decode cX12_free 56 = .ok (.if_icmp .ge 16, 3) := dgX12_free_43.2.2.2.2.2.2.2.1
theorem dX12_free_59 : decode cX12_free 59 = .ok (.aload_n 0, 1) := dgX12_free_43.2.2.2.2.2.2.2.2.1
theorem dX12_free_60 : decode cX12_free 60 = .ok (.iload 7, 2) := dgX12_free_43.2.2.2.2.2.2.2.2.2.1
theorem dX12_free_62 : decode cX12_free 62 = .ok (.ineg, 1) := dgX12_free_43.2.2.2.2.2.2.2.2.2.2.1
theorem dX12_free_63 : decode cX12_free 63 = .ok (.invokevirtual 204, 3) := dgX12_free_43.2.2.2.2.2.2.2.2.2.2.2.1
theorem dgX12_free_66 : (decode cX12_free 66 = .ok (.iinc 8 1, 3)) ∧ (decode cX12_free 69 = .ok (.goto (-17), 3)) ∧ (decode cX12_free 72 = .ok (.aload_n 0, 1)) ∧ (decode cX12_free 73 = .ok (.dup, 1)) ∧ (decode cX12_free 74 = .ok (.getfield 211, 3)) ∧ (decode cX12_free 77 = .ok (.iload 7, 2)) ∧ (decode cX12_free 79 = .ok (.iload 6, 2)) ∧ (decode cX12_free 81 = .ok (.imul, 1)) ∧ (decode cX12_free 82 = .ok (.isub, 1)) ∧ (decode cX12_free 83 = .ok (.putfield 211, 3)) ∧ (decode cX12_free 86 = .ok (.aload_n 0, 1)) ∧ (decode cX12_free 87 = .ok (.iload 5, 2)) ∧ True := dkW [(66, .iinc 8 1, 3), (69, .goto (-17), 3), (72, .aload_n 0, 1), (73, .dup, 1), (74, .getfield 211, 3), (77, .iload 7, 2), (79, .iload 6, 2), (81, .imul, 1), (82, .isub, 1), (83, .putfield 211, 3), (86, .aload_n 0, 1), (87, .iload 5, 2)] 66 (by decide +kernel)
theorem dX12_free_66 : decode cX12_free 66 = .ok (.iinc 8 1, 3) := dgX12_free_66.1
theorem dX12_free_69 : decode cX12_free 69 = .ok (.goto (-17), 3) := dgX12_free_66.2.1
theorem dX12_free_72 : decode cX12_free 72 = .ok (.aload_n 0, 1) := dgX12_free_66.2.2.1
theorem dX12_free_73 : decode cX12_free 73 = .ok (.dup, 1) := dgX12_free_66.2.2.2.1
theorem dX12_free_74 : decode cX12_free 74 = .ok (.getfield 211, 3) := dgX12_free_66.2.2.2.2.1
theorem dX12_free_77 : decode cX12_free 77 = .ok (.iload 7, 2) := dgX12_free_66.2.2.2.2.2.1
theorem dX12_free_79 : decode cX12_free 79 = .ok (.iload 6, 2) := dgX12_free_66.2.2.2.2.2.2.1
theorem dX12_free_81 : decode cX12_free 81 = .ok (.imul, 1) := dgX12_free_66.2.2.2.2.2.2.2.1
theorem dX12_free_82 : decode cX12_free 82 = .ok (.isub, 1) := dgX12_free_66.2.2.2.2.2.2.2.2.1
theorem dX12_free_83 : decode cX12_free 83 = .ok (.putfield 211, 3) := dgX12_free_66.2.2.2.2.2.2.2.2.2.1
theorem dX12_free_86 : decode cX12_free 86 = .ok (.aload_n 0, 1) := dgX12_free_66.2.2.2.2.2.2.2.2.2.2.1
theorem dX12_free_87 : decode cX12_free 87 = .ok (.iload 5, 2) := dgX12_free_66.2.2.2.2.2.2.2.2.2.2.2.1
theorem dgX12_free_89 : (decode cX12_free 89 = .ok (.putfield 214, 3)) ∧ (decode cX12_free 92 = .ok (.aload_n 0, 1)) ∧ (decode cX12_free 93 = .ok (.iload_n 2, 1)) ∧ (decode cX12_free 94 = .ok (.putfield 194, 3)) ∧ (decode cX12_free 97 = .ok (.aload_n 0, 1)) ∧ (decode cX12_free 98 = .ok (.iload_n 3, 1)) ∧ (decode cX12_free 99 = .ok (.putfield 64, 3)) ∧ (decode cX12_free 102 = .ok (.aload_n 0, 1)) ∧ (decode cX12_free 103 = .ok (.iload 4, 2)) ∧ (decode cX12_free 105 = .ok (.putfield 67, 3)) ∧ (decode cX12_free 108 = .ok (.iload 6, 2)) ∧ (decode cX12_free 110 = .ok (.ireturn, 1)) ∧ True := dkW [(89, .putfield 214, 3), (92, .aload_n 0, 1), (93, .iload_n 2, 1), (94, .putfield 194, 3), (97, .aload_n 0, 1), (98, .iload_n 3, 1), (99, .putfield 64, 3), (102, .aload_n 0, 1), (103, .iload 4, 2), (105, .putfield 67, 3), (108, .iload 6, 2), (110, .ireturn, 1)] 89 (by decide +kernel)
theorem dX12_free_89 : decode cX12_free 89 = .ok (.putfield 214, 3) := dgX12_free_89.1
theorem dX12_free_92 : decode cX12_free 92 = .ok (.aload_n 0, 1) := dgX12_free_89.2.1
theorem dX12_free_93 : decode cX12_free 93 = .ok (.iload_n 2, 1) := dgX12_free_89.2.2.1
theorem dX12_free_94 : decode cX12_free 94 = .ok (.putfield 194, 3) := dgX12_free_89.2.2.2.1
theorem dX12_free_97 : decode cX12_free 97 = .ok (.aload_n 0, 1) := dgX12_free_89.2.2.2.2.1
theorem dX12_free_98 : decode cX12_free 98 = .ok (.iload_n 3, 1) := dgX12_free_89.2.2.2.2.2.1
theorem dX12_free_99 : decode cX12_free 99 = .ok (.putfield 64, 3) := dgX12_free_89.2.2.2.2.2.2.1
theorem dX12_free_102 : decode cX12_free 102 = .ok (.aload_n 0, 1) := dgX12_free_89.2.2.2.2.2.2.2.1
theorem dX12_free_103 : decode cX12_free 103 = .ok (.iload 4, 2) := dgX12_free_89.2.2.2.2.2.2.2.2.1
theorem dX12_free_105 : decode cX12_free 105 = .ok (.putfield 67, 3) := dgX12_free_89.2.2.2.2.2.2.2.2.2.1
theorem dX12_free_108 : decode cX12_free 108 = .ok (.iload 6, 2) := dgX12_free_89.2.2.2.2.2.2.2.2.2.2.1
theorem dX12_free_110 : decode cX12_free 110 = .ok (.ireturn, 1) := dgX12_free_89.2.2.2.2.2.2.2.2.2.2.2.1
abbrev rmX12_free : Room := { frames := 4, cells := 0, slots := 0, locals := 91 }
noncomputable def fX12_free_b52_body (N : Nat)  (g52 : Hs → Int32 → Int32 → Int32 → Int32 → Int32 → Int32 → Int32 → Option (Int32 × Hs)) (t : Nat) (h : Hs) (x2 : Int32) (x3 : Int32) (x4 : Int32) (x5 : Int32) (x6 : Int32) (x7 : Int32) (x8 : Int32) : Option (Int32 × Hs) :=
  if x6 ≤ x8 then (
  (oI 12 21 h (some t)).bind fun v1 =>
  (qI 12 21 h (some t) (v1 - (x7 * x6))).bind fun h2 =>
  (qI 12 22 h2 (some t) x5).bind fun h3 =>
  (qI 12 23 h3 (some t) x2).bind fun h4 =>
  (qI 12 24 h4 (some t) x3).bind fun h5 =>
  (qI 12 25 h5 (some t) x4).bind fun h6 =>
  some (x6, h6))
  else (rc 12 h (some t)).bind fun a8 =>
  (fX12_place N h a8 (-x7)).bind fun r7 =>
  (some (x8 + 1)).bind fun y9 =>
  g52 r7 x2 x3 x4 x5 x6 x7 y9
noncomputable def fX12_free_b52 (N : Nat)  (t : Nat) (n : Nat) : Hs → Int32 → Int32 → Int32 → Int32 → Int32 → Int32 → Int32 → Option (Int32 × Hs) := lp (fun _ _ _ _ _ _ _ _ => none) (fun g h x2 x3 x4 x5 x6 x7 x8 => fX12_free_b52_body N  g t h x2 x3 x4 x5 x6 x7 x8) n
set_option maxHeartbeats 4000000 in
set_option maxRecDepth 20000 in
theorem wX12_free_b52_body {p : Program} {l : Launch} {e : Env} {s : State} {m : MethodId} {args : Array Value} {below : List Frame} {meth : Method} {c : Code} {G : Gl} {N : Nat} {h : Hs} {r : Int32 × Hs}  {g52 : Hs → Int32 → Int32 → Int32 → Int32 → Int32 → Int32 → Int32 → Option (Int32 × Hs)} {t : Nat} {x2 : Int32} {x3 : Int32} {x4 : Int32} {x5 : Int32} {x6 : Int32} {x7 : Int32} {x8 : Int32} (C : Cx p s m args meth c cX12_free RX12 9 G) (hret : meth.sig.returnType = (some .int))  (hg52 : ∀ (h : Hs) (x2 : Int32) (x3 : Int32) (x4 : Int32) (x5 : Int32) (x6 : Int32) (x7 : Int32) (x8 : Int32), g52 h x2 x3 x4 x5 x6 x7 x8 = some r → V p l e rmX12_free s m args below meth c G 9 (MQ below (QcG G (some (.inl r.1)) r.2) args s rmX12_free.cells rmX12_free.slots (AG G)) h 0 0 52 [some (.inr (some t)), none, some (.inl x2), some (.inl x3), some (.inl x4), some (.inl x5), some (.inl x6), some (.inl x7), some (.inl x8)] []) (hf : fX12_free_b52_body N  g52 t h x2 x3 x4 x5 x6 x7 x8 = some r) : V p l e rmX12_free s m args below meth c G 9 (MQ below (QcG G (some (.inl r.1)) r.2) args s rmX12_free.cells rmX12_free.slots (AG G)) h 0 0 52 [some (.inr (some t)), none, some (.inl x2), some (.inl x3), some (.inl x4), some (.inl x5), some (.inl x6), some (.inl x7), some (.inl x8)] [] := by
  unfold fX12_free_b52_body at hf
  refine r_iload C dX12_free_52 rfl ?_
  refine r_iload C dX12_free_54 rfl ?_
  refine r_icmp_ge (tgt := 72) C dX12_free_56 (by decide) (fun hc => ?_) (fun hc => ?_)
  · have hf := ifT hf hc
    refine r_aload_n C dX12_free_72 rfl ?_
    refine r_dup C dX12_free_73 ?_
    obtain ⟨v1, ev1, hf⟩ := bS hf
    refine r_getI C dX12_free_74 fl_X12_211 rfl ev1 ?_
    refine r_iload C dX12_free_77 rfl ?_
    refine r_iload C dX12_free_79 rfl ?_
    refine r_imul C dX12_free_81 ?_
    refine r_isub C dX12_free_82 ?_
    obtain ⟨h2, eh2, hf⟩ := bS hf
    refine r_putI C dX12_free_83 fl_X12_211 (Or.inl fn_12_21) rfl eh2 ?_
    refine r_aload_n C dX12_free_86 rfl ?_
    refine r_iload C dX12_free_87 rfl ?_
    obtain ⟨h3, eh3, hf⟩ := bS hf
    refine r_putI C dX12_free_89 fl_X12_214 (Or.inl fn_12_22) rfl eh3 ?_
    refine r_aload_n C dX12_free_92 rfl ?_
    refine r_iload_n C dX12_free_93 rfl ?_
    obtain ⟨h4, eh4, hf⟩ := bS hf
    refine r_putI C dX12_free_94 fl_X12_194 (Or.inl fn_12_23) rfl eh4 ?_
    refine r_aload_n C dX12_free_97 rfl ?_
    refine r_iload_n C dX12_free_98 rfl ?_
    obtain ⟨h5, eh5, hf⟩ := bS hf
    refine r_putI C dX12_free_99 fl_X12_64 (Or.inl fn_12_24) rfl eh5 ?_
    refine r_aload_n C dX12_free_102 rfl ?_
    refine r_iload C dX12_free_103 rfl ?_
    obtain ⟨h6, eh6, hf⟩ := bS hf
    refine r_putI C dX12_free_105 fl_X12_67 (Or.inl fn_12_25) rfl eh6 ?_
    refine r_iload C dX12_free_108 rfl ?_
    exact r_iretF C dX12_free_110 hret hf (by decide) (by decide)
  · have hf := ifF hf hc
    refine r_aload_n C dX12_free_59 rfl ?_
    refine r_iload C dX12_free_60 rfl ?_
    refine r_ineg C dX12_free_62 ?_
    obtain ⟨a8, ea8, hf⟩ := bS hf
    obtain ⟨r7, er7, hf⟩ := bS hf
    refine r_invV0 (As := [.inl (-x7)]) (ci := 12) C dX12_free_63 mcX12_place wd_1272 wd_1274 wp_40 rfl rfl (by decide) ⟨by decide, by decide⟩ ⟨by decide, by decide⟩ rfl (Nat.le_of_ble_eq_true rfl) ea8 (kX12_place l G er7) ?_
    obtain ⟨y9, ey9, hf⟩ := bS hf
    refine r_iincE (v := 1) C dX12_free_66 rfl (by decide) (by decide) ey9 ?_
    refine r_goto (tgt := 52) C dX12_free_69 (by decide) ?_
    exact V.sub (hg52 _ _ _ _ _ _ _ _ hf) (LW_s rfl (LW_n (LW_s rfl (LW_s rfl (LW_s rfl (LW_s rfl (LW_s rfl (LW_s rfl (LW_s rfl (LW_e))))))))))
theorem wX12_free_b52 {p : Program} {l : Launch} {e : Env} {s : State} {m : MethodId} {args : Array Value} {below : List Frame} {meth : Method} {c : Code} {G : Gl} {N : Nat} {r : Int32 × Hs}  {t : Nat} (C : Cx p s m args meth c cX12_free RX12 9 G) (hret : meth.sig.returnType = (some .int))  : ∀ (n : Nat) (h : Hs) (x2 : Int32) (x3 : Int32) (x4 : Int32) (x5 : Int32) (x6 : Int32) (x7 : Int32) (x8 : Int32), fX12_free_b52 N  t n h x2 x3 x4 x5 x6 x7 x8 = some r → V p l e rmX12_free s m args below meth c G 9 (MQ below (QcG G (some (.inl r.1)) r.2) args s rmX12_free.cells rmX12_free.slots (AG G)) h 0 0 52 [some (.inr (some t)), none, some (.inl x2), some (.inl x3), some (.inl x4), some (.inl x5), some (.inl x6), some (.inl x7), some (.inl x8)] [] := by
  intro n
  induction n with
  | zero => intro h x2 x3 x4 x5 x6 x7 x8 hf; exact absurd (show (none : Option (Int32 × Hs)) = some r from hf) (fun q => by cases q)
  | succ n ih => intro h x2 x3 x4 x5 x6 x7 x8 hf; exact wX12_free_b52_body C hret  ih (show fX12_free_b52_body N  (fX12_free_b52 N  t n) t h x2 x3 x4 x5 x6 x7 x8 = some r from hf)
noncomputable def fX12_free_b47 (N : Nat)  (t : Nat) (h : Hs) (x2 : Int32) (x3 : Int32) (x4 : Int32) (x5 : Int32) (x6 : Int32) (u0 : Int32) : Option (Int32 × Hs) :=
  fX12_free_b52 N t N h x2 x3 x4 x5 x6 u0 0
set_option maxHeartbeats 4000000 in
set_option maxRecDepth 20000 in
theorem wX12_free_b47 {p : Program} {l : Launch} {e : Env} {s : State} {m : MethodId} {args : Array Value} {below : List Frame} {meth : Method} {c : Code} {G : Gl} {N : Nat} {h : Hs} {r : Int32 × Hs}  {t : Nat} {x2 : Int32} {x3 : Int32} {x4 : Int32} {x5 : Int32} {x6 : Int32} {u0 : Int32} (C : Cx p s m args meth c cX12_free RX12 9 G) (hret : meth.sig.returnType = (some .int))  (hf : fX12_free_b47 N  t h x2 x3 x4 x5 x6 u0 = some r) : V p l e rmX12_free s m args below meth c G 9 (MQ below (QcG G (some (.inl r.1)) r.2) args s rmX12_free.cells rmX12_free.slots (AG G)) h 0 0 47 [some (.inr (some t)), none, some (.inl x2), some (.inl x3), some (.inl x4), some (.inl x5), some (.inl x6), none, none] [.inl u0] := by
  unfold fX12_free_b47 at hf
  refine r_istore C dX12_free_47 (by decide) ?_
  refine r_iconst (v := 0) C dX12_free_49 (by decide) ?_
  refine r_istore C dX12_free_50 (by decide) ?_
  exact V.sub (wX12_free_b52 C hret N _ _ _ _ _ _ _ _ hf) (LW_s rfl (LW_n (LW_s rfl (LW_s rfl (LW_s rfl (LW_s rfl (LW_s rfl (LW_s rfl (LW_s rfl (LW_e))))))))))
noncomputable def fX12_free (N : Nat) (h : Hs) (t : Nat) (p1 : Int32) : Option (Int32 × Hs) :=
  (fX12_isTurn N h p1).bind fun r1 =>
  if r1.1 = 0 then (
  some ((-1), r1.2))
  else (oI 12 23 r1.2 (some t)).bind fun v2 =>
  (oI 12 24 r1.2 (some t)).bind fun v3 =>
  (oI 12 25 r1.2 (some t)).bind fun v4 =>
  (oI 12 22 r1.2 (some t)).bind fun v5 =>
  (rc 12 r1.2 (some t)).bind fun a7 =>
  (fX12_turnNow N r1.2 a7 p1).bind fun r6 =>
  if 0 ≤ p1 then (
  fX12_free_b47 N t r6.2 v2 v3 v4 v5 r6.1 1)
  else fX12_free_b47 N t r6.2 v2 v3 v4 v5 r6.1 (-1)
set_option maxHeartbeats 4000000 in
set_option maxRecDepth 20000 in
theorem kX12_free (l : Launch) (G : Gl) {N : Nat} {h : Hs} {t : Nat} {p1 : Int32} {r : Int32 × Hs} (hf : fX12_free N h t p1 = some r) : CT l G yX12_free cX12_free 9 (some .int) rmX12_free [.inr (some t), .inl p1] h (some (.inl r.1)) r.2 := by
  refine mk_CT (by decide) (Nat.le_of_ble_eq_true rfl) ?_
  intro p e s m args below meth c C hret hin
  unfold fX12_free at hf
  refine r_iload_n C dX12_free_0 rfl ?_
  obtain ⟨r1, er1, hf⟩ := bS hf
  refine r_invS1 (As := [.inl p1]) C dX12_free_1 mcX12_isTurn wd_1265 wd_1266 ⟨by decide, by decide⟩ ⟨by decide, by decide⟩ rfl (Nat.le_of_ble_eq_true rfl) (kX12_isTurn l G er1) ?_
  refine r_if_ne (tgt := 9) C dX12_free_4 (by decide) (fun hc => ?_) (fun hc => ?_)
  · have hf := ifF hf hc
    refine r_aload_n C dX12_free_9 rfl ?_
    obtain ⟨v2, ev2, hf⟩ := bS hf
    refine r_getI C dX12_free_10 fl_X12_194 rfl ev2 ?_
    refine r_istore_n C dX12_free_13 (by decide) ?_
    refine r_aload_n C dX12_free_14 rfl ?_
    obtain ⟨v3, ev3, hf⟩ := bS hf
    refine r_getI C dX12_free_15 fl_X12_64 rfl ev3 ?_
    refine r_istore_n C dX12_free_18 (by decide) ?_
    refine r_aload_n C dX12_free_19 rfl ?_
    obtain ⟨v4, ev4, hf⟩ := bS hf
    refine r_getI C dX12_free_20 fl_X12_67 rfl ev4 ?_
    refine r_istore C dX12_free_23 (by decide) ?_
    refine r_aload_n C dX12_free_25 rfl ?_
    obtain ⟨v5, ev5, hf⟩ := bS hf
    refine r_getI C dX12_free_26 fl_X12_214 rfl ev5 ?_
    refine r_istore C dX12_free_29 (by decide) ?_
    refine r_aload_n C dX12_free_31 rfl ?_
    refine r_iload_n C dX12_free_32 rfl ?_
    obtain ⟨a7, ea7, hf⟩ := bS hf
    obtain ⟨r6, er6, hf⟩ := bS hf
    refine r_invV1 (As := [.inl p1]) (ci := 12) C dX12_free_33 mcX12_turnNow wd_1268 wd_1270 wp_39 rfl rfl (by decide) ⟨by decide, by decide⟩ ⟨by decide, by decide⟩ rfl (Nat.le_of_ble_eq_true rfl) ea7 (kX12_turnNow l G er6) ?_
    refine r_istore C dX12_free_36 (by decide) ?_
    refine r_iload_n C dX12_free_38 rfl ?_
    refine r_if_ge (tgt := 46) C dX12_free_39 (by decide) (fun hc => ?_) (fun hc => ?_)
    · have hf := ifT hf hc
      refine r_iconst (v := 1) C dX12_free_46 (by decide) ?_
      exact V.sub (wX12_free_b47 C hret hf) (LW_s rfl (LW_n (LW_s rfl (LW_s rfl (LW_s rfl (LW_s rfl (LW_s rfl (LW_n (LW_n (LW_e))))))))))
    · have hf := ifF hf hc
      refine r_iconst (v := -1) C dX12_free_42 (by decide) ?_
      refine r_goto (tgt := 47) C dX12_free_43 (by decide) ?_
      exact V.sub (wX12_free_b47 C hret hf) (LW_s rfl (LW_n (LW_s rfl (LW_s rfl (LW_s rfl (LW_s rfl (LW_s rfl (LW_n (LW_n (LW_e))))))))))
  · have hf := ifT hf hc
    refine r_iconst (v := -1) C dX12_free_7 (by decide) ?_
    exact r_iretF C dX12_free_8 hret hf (by decide) (by decide)

theorem dgX12_isCaught_0 : (decode cX12_isCaught 0 = .ok (.iconst 0, 1)) ∧ (decode cX12_isCaught 1 = .ok (.istore_n 3, 1)) ∧ (decode cX12_isCaught 2 = .ok (.iload_n 3, 1)) ∧ (decode cX12_isCaught 3 = .ok (.aload_n 0, 1)) ∧ (decode cX12_isCaught 4 = .ok (.getfield 70, 3)) ∧ (decode cX12_isCaught 7 = .ok (.iload_n 1, 1)) ∧ (decode cX12_isCaught 8 = .ok (.iaload, 1)) ∧ (decode cX12_isCaught 9 = .ok (.if_icmp .ge 25, 3)) ∧ (decode cX12_isCaught 12 = .ok (.aload_n 0, 1)) ∧ (decode cX12_isCaught 13 = .ok (.getfield 73, 3)) ∧ (decode cX12_isCaught 16 = .ok (.iconst 5, 1)) ∧ (decode cX12_isCaught 17 = .ok (.iload_n 1, 1)) ∧ True := dkW [(0, .iconst 0, 1), (1, .istore_n 3, 1), (2, .iload_n 3, 1), (3, .aload_n 0, 1), (4, .getfield 70, 3), (7, .iload_n 1, 1), (8, .iaload, 1), (9, .if_icmp .ge 25, 3), (12, .aload_n 0, 1), (13, .getfield 73, 3), (16, .iconst 5, 1), (17, .iload_n 1, 1)] 0 (by decide +kernel)
theorem dX12_isCaught_0 : decode cX12_isCaught 0 = .ok (.iconst 0, 1) := dgX12_isCaught_0.1
theorem dX12_isCaught_1 : decode cX12_isCaught 1 = .ok (.istore_n 3, 1) := dgX12_isCaught_0.2.1
theorem dX12_isCaught_2 : decode cX12_isCaught 2 = .ok (.iload_n 3, 1) := dgX12_isCaught_0.2.2.1
theorem dX12_isCaught_3 : decode cX12_isCaught 3 = .ok (.aload_n 0, 1) := dgX12_isCaught_0.2.2.2.1
theorem dX12_isCaught_4 : decode cX12_isCaught 4 = .ok (.getfield 70, 3) := dgX12_isCaught_0.2.2.2.2.1
theorem dX12_isCaught_7 : decode cX12_isCaught 7 = .ok (.iload_n 1, 1) := dgX12_isCaught_0.2.2.2.2.2.1
theorem dX12_isCaught_8 : decode cX12_isCaught 8 = .ok (.iaload, 1) := dgX12_isCaught_0.2.2.2.2.2.2.1
theorem dX12_isCaught_9 : decode cX12_isCaught 9 = .ok (.if_icmp .ge 25, 3) := dgX12_isCaught_0.2.2.2.2.2.2.2.1
theorem dX12_isCaught_12 : decode cX12_isCaught 12 = .ok (.aload_n 0, 1) := dgX12_isCaught_0.2.2.2.2.2.2.2.2.1
theorem dX12_isCaught_13 : decode cX12_isCaught 13 = .ok (.getfield 73, 3) := dgX12_isCaught_0.2.2.2.2.2.2.2.2.2.1
theorem dX12_isCaught_16 : decode cX12_isCaught 16 = .ok (.iconst 5, 1) := dgX12_isCaught_0.2.2.2.2.2.2.2.2.2.2.1
theorem dX12_isCaught_17 : decode cX12_isCaught 17 = .ok (.iload_n 1, 1) := dgX12_isCaught_0.2.2.2.2.2.2.2.2.2.2.2.1
theorem dgX12_isCaught_18 : (decode cX12_isCaught 18 = .ok (.imul, 1)) ∧ (decode cX12_isCaught 19 = .ok (.iload_n 3, 1)) ∧ (decode cX12_isCaught 20 = .ok (.iadd, 1)) ∧ (decode cX12_isCaught 21 = .ok (.iaload, 1)) ∧ (decode cX12_isCaught 22 = .ok (.iload_n 2, 1)) ∧ (decode cX12_isCaught 23 = .ok (.if_icmp .ne 5, 3)) ∧ (decode cX12_isCaught 26 = .ok (.iconst 1, 1)) ∧ (decode cX12_isCaught 27 = .ok (.ireturn, 1)) ∧ (decode cX12_isCaught 28 = .ok (.iinc 3 1, 3)) ∧ (decode cX12_isCaught 31 = .ok (.goto (-29), 3)) ∧ (decode cX12_isCaught 34 = .ok (.iconst 0, 1)) ∧ (decode cX12_isCaught 35 = .ok (.ireturn, 1)) ∧ True := dkW [(18, .imul, 1), (19, .iload_n 3, 1), (20, .iadd, 1), (21, .iaload, 1), (22, .iload_n 2, 1), (23, .if_icmp .ne 5, 3), (26, .iconst 1, 1), (27, .ireturn, 1), (28, .iinc 3 1, 3), (31, .goto (-29), 3), (34, .iconst 0, 1), (35, .ireturn, 1)] 18 (by decide +kernel)
theorem dX12_isCaught_18 : decode cX12_isCaught 18 = .ok (.imul, 1) := dgX12_isCaught_18.1
theorem dX12_isCaught_19 : decode cX12_isCaught 19 = .ok (.iload_n 3, 1) := dgX12_isCaught_18.2.1
theorem dX12_isCaught_20 : decode cX12_isCaught 20 = .ok (.iadd, 1) := dgX12_isCaught_18.2.2.1
theorem dX12_isCaught_21 : decode cX12_isCaught 21 = .ok (.iaload, 1) := dgX12_isCaught_18.2.2.2.1
theorem dX12_isCaught_22 : decode cX12_isCaught 22 = .ok (.iload_n 2, 1) := dgX12_isCaught_18.2.2.2.2.1
theorem dX12_isCaught_23 : decode cX12_isCaught 23 = .ok (.if_icmp .ne 5, 3) := dgX12_isCaught_18.2.2.2.2.2.1
theorem dX12_isCaught_26 : decode cX12_isCaught 26 = .ok (.iconst 1, 1) := dgX12_isCaught_18.2.2.2.2.2.2.1
theorem dX12_isCaught_27 : decode cX12_isCaught 27 = .ok (.ireturn, 1) := dgX12_isCaught_18.2.2.2.2.2.2.2.1
theorem dX12_isCaught_28 : decode cX12_isCaught 28 = .ok (.iinc 3 1, 3) := dgX12_isCaught_18.2.2.2.2.2.2.2.2.1
theorem dX12_isCaught_31 : decode cX12_isCaught 31 = .ok (.goto (-29), 3) := dgX12_isCaught_18.2.2.2.2.2.2.2.2.2.1
theorem dX12_isCaught_34 : decode cX12_isCaught 34 = .ok (.iconst 0, 1) := dgX12_isCaught_18.2.2.2.2.2.2.2.2.2.2.1
theorem dX12_isCaught_35 : decode cX12_isCaught 35 = .ok (.ireturn, 1) := dgX12_isCaught_18.2.2.2.2.2.2.2.2.2.2.2.1
abbrev rmX12_isCaught : Room := { frames := 0, cells := 0, slots := 0, locals := 0 }
noncomputable def fX12_isCaught_b2_body (N : Nat)  (g2 : Hs → Int32 → Int32 → Int32 → Option (Int32 × Hs)) (t : Nat) (h : Hs) (x1 : Int32) (x2 : Int32) (x3 : Int32) : Option (Int32 × Hs) :=
  (oR 12 26 h (some t)).bind fun o1 =>
  (lA 20 h o1 x1).bind fun v2 =>
  if v2 ≤ x3 then (
  some (0, h))
  else (oR 12 27 h (some t)).bind fun o3 =>
  (lA 20 h o3 ((5 * x1) + x3)).bind fun v4 =>
  if v4 = x2 then (
  some (1, h))
  else (some (x3 + 1)).bind fun y5 =>
  g2 h x1 x2 y5
noncomputable def fX12_isCaught_b2 (N : Nat)  (t : Nat) (n : Nat) : Hs → Int32 → Int32 → Int32 → Option (Int32 × Hs) := lp (fun _ _ _ _ => none) (fun g h x1 x2 x3 => fX12_isCaught_b2_body N  g t h x1 x2 x3) n
set_option maxHeartbeats 4000000 in
set_option maxRecDepth 20000 in
theorem wX12_isCaught_b2_body {p : Program} {l : Launch} {e : Env} {s : State} {m : MethodId} {args : Array Value} {below : List Frame} {meth : Method} {c : Code} {G : Gl} {N : Nat} {h : Hs} {r : Int32 × Hs}  {g2 : Hs → Int32 → Int32 → Int32 → Option (Int32 × Hs)} {t : Nat} {x1 : Int32} {x2 : Int32} {x3 : Int32} (C : Cx p s m args meth c cX12_isCaught RX12 4 G) (hret : meth.sig.returnType = (some .boolean))  (hg2 : ∀ (h : Hs) (x1 : Int32) (x2 : Int32) (x3 : Int32), g2 h x1 x2 x3 = some r → V p l e rmX12_isCaught s m args below meth c G 4 (MQ below (QcG G (some (.inl r.1)) r.2) args s rmX12_isCaught.cells rmX12_isCaught.slots (AG G)) h 0 0 2 [some (.inr (some t)), some (.inl x1), some (.inl x2), some (.inl x3)] []) (hf : fX12_isCaught_b2_body N  g2 t h x1 x2 x3 = some r) : V p l e rmX12_isCaught s m args below meth c G 4 (MQ below (QcG G (some (.inl r.1)) r.2) args s rmX12_isCaught.cells rmX12_isCaught.slots (AG G)) h 0 0 2 [some (.inr (some t)), some (.inl x1), some (.inl x2), some (.inl x3)] [] := by
  unfold fX12_isCaught_b2_body at hf
  refine r_iload_n C dX12_isCaught_2 rfl ?_
  refine r_aload_n C dX12_isCaught_3 rfl ?_
  obtain ⟨o1, eo1, hf⟩ := bS hf
  refine r_getR C dX12_isCaught_4 fl_X12_70 rfl eo1 ?_
  refine r_iload_n C dX12_isCaught_7 rfl ?_
  obtain ⟨v2, ev2, hf⟩ := bS hf
  refine r_iald C dX12_isCaught_8 ev2 ?_
  refine r_icmp_ge (tgt := 34) C dX12_isCaught_9 (by decide) (fun hc => ?_) (fun hc => ?_)
  · have hf := ifT hf hc
    refine r_iconst (v := 0) C dX12_isCaught_34 (by decide) ?_
    exact r_zretF C dX12_isCaught_35 hret (z := 0) rfl hf (by decide) (by decide)
  · have hf := ifF hf hc
    refine r_aload_n C dX12_isCaught_12 rfl ?_
    obtain ⟨o3, eo3, hf⟩ := bS hf
    refine r_getR C dX12_isCaught_13 fl_X12_73 rfl eo3 ?_
    refine r_iconst (v := 5) C dX12_isCaught_16 (by decide) ?_
    refine r_iload_n C dX12_isCaught_17 rfl ?_
    refine r_imul C dX12_isCaught_18 ?_
    refine r_iload_n C dX12_isCaught_19 rfl ?_
    refine r_iadd C dX12_isCaught_20 ?_
    obtain ⟨v4, ev4, hf⟩ := bS hf
    refine r_iald C dX12_isCaught_21 ev4 ?_
    refine r_iload_n C dX12_isCaught_22 rfl ?_
    refine r_icmp_ne (tgt := 28) C dX12_isCaught_23 (by decide) (fun hc => ?_) (fun hc => ?_)
    · have hf := ifF hf hc
      obtain ⟨y5, ey5, hf⟩ := bS hf
      refine r_iincE (v := 1) C dX12_isCaught_28 rfl (by decide) (by decide) ey5 ?_
      refine r_goto (tgt := 2) C dX12_isCaught_31 (by decide) ?_
      exact V.sub (hg2 _ _ _ _ hf) (LW_s rfl (LW_s rfl (LW_s rfl (LW_s rfl (LW_e)))))
    · have hf := ifT hf hc
      refine r_iconst (v := 1) C dX12_isCaught_26 (by decide) ?_
      exact r_zretF C dX12_isCaught_27 hret (z := 1) rfl hf (by decide) (by decide)
theorem wX12_isCaught_b2 {p : Program} {l : Launch} {e : Env} {s : State} {m : MethodId} {args : Array Value} {below : List Frame} {meth : Method} {c : Code} {G : Gl} {N : Nat} {r : Int32 × Hs}  {t : Nat} (C : Cx p s m args meth c cX12_isCaught RX12 4 G) (hret : meth.sig.returnType = (some .boolean))  : ∀ (n : Nat) (h : Hs) (x1 : Int32) (x2 : Int32) (x3 : Int32), fX12_isCaught_b2 N  t n h x1 x2 x3 = some r → V p l e rmX12_isCaught s m args below meth c G 4 (MQ below (QcG G (some (.inl r.1)) r.2) args s rmX12_isCaught.cells rmX12_isCaught.slots (AG G)) h 0 0 2 [some (.inr (some t)), some (.inl x1), some (.inl x2), some (.inl x3)] [] := by
  intro n
  induction n with
  | zero => intro h x1 x2 x3 hf; exact absurd (show (none : Option (Int32 × Hs)) = some r from hf) (fun q => by cases q)
  | succ n ih => intro h x1 x2 x3 hf; exact wX12_isCaught_b2_body C hret  ih (show fX12_isCaught_b2_body N  (fX12_isCaught_b2 N  t n) t h x1 x2 x3 = some r from hf)
noncomputable def fX12_isCaught (N : Nat) (h : Hs) (t : Nat) (p1 : Int32) (p2 : Int32) : Option (Int32 × Hs) :=
  fX12_isCaught_b2 N t N h p1 p2 0
set_option maxHeartbeats 4000000 in
set_option maxRecDepth 20000 in
theorem kX12_isCaught (l : Launch) (G : Gl) {N : Nat} {h : Hs} {t : Nat} {p1 : Int32} {p2 : Int32} {r : Int32 × Hs} (hf : fX12_isCaught N h t p1 p2 = some r) : CT l G yX12_isCaught cX12_isCaught 4 (some .boolean) rmX12_isCaught [.inr (some t), .inl p1, .inl p2] h (some (.inl r.1)) r.2 := by
  refine mk_CT (by decide) (Nat.le_of_ble_eq_true rfl) ?_
  intro p e s m args below meth c C hret hin
  unfold fX12_isCaught at hf
  refine r_iconst (v := 0) C dX12_isCaught_0 (by decide) ?_
  refine r_istore_n C dX12_isCaught_1 (by decide) ?_
  exact V.sub (wX12_isCaught_b2 C hret N _ _ _ _ hf) (LW_s rfl (LW_s rfl (LW_s rfl (LW_s rfl (LW_e)))))

theorem dgX12_hold_0 : (decode cX12_hold 0 = .ok (.iload_n 1, 1)) ∧ (decode cX12_hold 1 = .ok (.iconst 0, 1)) ∧ (decode cX12_hold 2 = .ok (.sipush 1599, 3)) ∧ (decode cX12_hold 5 = .ok (.invokestatic 149, 3)) ∧ (decode cX12_hold 8 = .ok (.ifCond .eq 18, 3)) ∧ (decode cX12_hold 11 = .ok (.aload_n 0, 1)) ∧ (decode cX12_hold 12 = .ok (.iload_n 1, 1)) ∧ (decode cX12_hold 13 = .ok (.bipush 100, 2)) ∧ (decode cX12_hold 15 = .ok (.idiv, 1)) ∧ (decode cX12_hold 16 = .ok (.iload_n 1, 1)) ∧ (decode cX12_hold 17 = .ok (.bipush 100, 2)) ∧ (decode cX12_hold 19 = .ok (.irem, 1)) ∧ True := dkW [(0, .iload_n 1, 1), (1, .iconst 0, 1), (2, .sipush 1599, 3), (5, .invokestatic 149, 3), (8, .ifCond .eq 18, 3), (11, .aload_n 0, 1), (12, .iload_n 1, 1), (13, .bipush 100, 2), (15, .idiv, 1), (16, .iload_n 1, 1), (17, .bipush 100, 2), (19, .irem, 1)] 0 (by decide +kernel)
theorem dX12_hold_0 : decode cX12_hold 0 = .ok (.iload_n 1, 1) := dgX12_hold_0.1
theorem dX12_hold_1 : decode cX12_hold 1 = .ok (.iconst 0, 1) := dgX12_hold_0.2.1
theorem dX12_hold_2 : decode cX12_hold 2 = .ok (.sipush 1599, 3) := dgX12_hold_0.2.2.1
theorem dX12_hold_5 : decode cX12_hold 5 = .ok (.invokestatic 149, 3) := dgX12_hold_0.2.2.2.1
theorem dX12_hold_8 : decode cX12_hold 8 = .ok (.ifCond .eq 18, 3) := dgX12_hold_0.2.2.2.2.1
theorem dX12_hold_11 : decode cX12_hold 11 = .ok (.aload_n 0, 1) := dgX12_hold_0.2.2.2.2.2.1
theorem dX12_hold_12 : decode cX12_hold 12 = .ok (.iload_n 1, 1) := dgX12_hold_0.2.2.2.2.2.2.1
theorem dX12_hold_13 : decode cX12_hold 13 = .ok (.bipush 100, 2) := dgX12_hold_0.2.2.2.2.2.2.2.1
theorem dX12_hold_15 : decode cX12_hold 15 = .ok (.idiv, 1) := dgX12_hold_0.2.2.2.2.2.2.2.2.1
theorem dX12_hold_16 : decode cX12_hold 16 = .ok (.iload_n 1, 1) := dgX12_hold_0.2.2.2.2.2.2.2.2.2.1
theorem dX12_hold_17 : decode cX12_hold 17 = .ok (.bipush 100, 2) := dgX12_hold_0.2.2.2.2.2.2.2.2.2.2.1
theorem dX12_hold_19 : decode cX12_hold 19 = .ok (.irem, 1) := dgX12_hold_0.2.2.2.2.2.2.2.2.2.2.2.1
theorem dgX12_hold_20 : (decode cX12_hold 20 = .ok (.invokevirtual 223, 3)) ∧ (decode cX12_hold 23 = .ok (.ifCond .eq 5, 3)) ∧ True := dkW [(20, .invokevirtual 223, 3), (23, .ifCond .eq 5, 3)] 20 (by decide +kernel)
theorem dX12_hold_20 : decode cX12_hold 20 = .ok (.invokevirtual 223, 3) := dgX12_hold_20.1
theorem dX12_hold_23 : decode cX12_hold 23 = .ok (.ifCond .eq 5, 3) := dgX12_hold_20.2.1
theorem dX12_hold_26 : decode cX12_hold 26 = .ok (.iconst (-1), 1) := by decide +kernel
theorem dgX12_hold_27 : (decode cX12_hold 27 = .ok (.ireturn, 1)) ∧ (decode cX12_hold 28 = .ok (.iload_n 1, 1)) ∧ (decode cX12_hold 29 = .ok (.bipush 100, 2)) ∧ (decode cX12_hold 31 = .ok (.idiv, 1)) ∧ (decode cX12_hold 32 = .ok (.istore_n 2, 1)) ∧ (decode cX12_hold 33 = .ok (.aload_n 0, 1)) ∧ (decode cX12_hold 34 = .ok (.getfield 70, 3)) ∧ (decode cX12_hold 37 = .ok (.iload_n 2, 1)) ∧ (decode cX12_hold 38 = .ok (.iaload, 1)) ∧ (decode cX12_hold 39 = .ok (.iconst 5, 1)) ∧ (decode cX12_hold 40 = .ok (.if_icmp .ne 6, 3)) ∧ (decode cX12_hold 43 = .ok (.bipush (-3), 2)) ∧ True := dkW [(27, .ireturn, 1), (28, .iload_n 1, 1), (29, .bipush 100, 2), (31, .idiv, 1), (32, .istore_n 2, 1), (33, .aload_n 0, 1), (34, .getfield 70, 3), (37, .iload_n 2, 1), (38, .iaload, 1), (39, .iconst 5, 1), (40, .if_icmp .ne 6, 3), (43, .bipush (-3), 2)] 27 (by decide +kernel)
theorem dX12_hold_27 : decode cX12_hold 27 = .ok (.ireturn, 1) := dgX12_hold_27.1
theorem dX12_hold_28 : decode cX12_hold 28 = .ok (.iload_n 1, 1) := dgX12_hold_27.2.1
theorem dX12_hold_29 : decode cX12_hold 29 = .ok (.bipush 100, 2) := dgX12_hold_27.2.2.1
theorem dX12_hold_31 : decode cX12_hold 31 = .ok (.idiv, 1) := dgX12_hold_27.2.2.2.1
theorem dX12_hold_32 : decode cX12_hold 32 = .ok (.istore_n 2, 1) := dgX12_hold_27.2.2.2.2.1
theorem dX12_hold_33 : decode cX12_hold 33 = .ok (.aload_n 0, 1) := dgX12_hold_27.2.2.2.2.2.1
theorem dX12_hold_34 : decode cX12_hold 34 = .ok (.getfield 70, 3) := dgX12_hold_27.2.2.2.2.2.2.1
theorem dX12_hold_37 : decode cX12_hold 37 = .ok (.iload_n 2, 1) := dgX12_hold_27.2.2.2.2.2.2.2.1
theorem dX12_hold_38 : decode cX12_hold 38 = .ok (.iaload, 1) := dgX12_hold_27.2.2.2.2.2.2.2.2.1
theorem dX12_hold_39 : decode cX12_hold 39 = .ok (.iconst 5, 1) := dgX12_hold_27.2.2.2.2.2.2.2.2.2.1
theorem dX12_hold_40 : decode cX12_hold 40 = .ok (.if_icmp .ne 6, 3) := dgX12_hold_27.2.2.2.2.2.2.2.2.2.2.1
theorem dX12_hold_43 : decode cX12_hold 43 = .ok (.bipush (-3), 2) := dgX12_hold_27.2.2.2.2.2.2.2.2.2.2.2.1
theorem dgX12_hold_45 : (decode cX12_hold 45 = .ok (.ireturn, 1)) ∧ (decode cX12_hold 46 = .ok (.aload_n 0, 1)) ∧ (decode cX12_hold 47 = .ok (.getfield 73, 3)) ∧ (decode cX12_hold 50 = .ok (.iconst 5, 1)) ∧ (decode cX12_hold 51 = .ok (.iload_n 2, 1)) ∧ (decode cX12_hold 52 = .ok (.imul, 1)) ∧ (decode cX12_hold 53 = .ok (.aload_n 0, 1)) ∧ (decode cX12_hold 54 = .ok (.getfield 70, 3)) ∧ (decode cX12_hold 57 = .ok (.iload_n 2, 1)) ∧ (decode cX12_hold 58 = .ok (.iaload, 1)) ∧ (decode cX12_hold 59 = .ok (.iadd, 1)) ∧ (decode cX12_hold 60 = .ok (.iload_n 1, 1)) ∧ True := dkW [(45, .ireturn, 1), (46, .aload_n 0, 1), (47, .getfield 73, 3), (50, .iconst 5, 1), (51, .iload_n 2, 1), (52, .imul, 1), (53, .aload_n 0, 1), (54, .getfield 70, 3), (57, .iload_n 2, 1), (58, .iaload, 1), (59, .iadd, 1), (60, .iload_n 1, 1)] 45 (by decide +kernel)
theorem dX12_hold_45 : decode cX12_hold 45 = .ok (.ireturn, 1) := dgX12_hold_45.1
theorem dX12_hold_46 : decode cX12_hold 46 = .ok (.aload_n 0, 1) := dgX12_hold_45.2.1
theorem dX12_hold_47 : decode cX12_hold 47 = .ok (.getfield 73, 3) := dgX12_hold_45.2.2.1
theorem dX12_hold_50 : decode cX12_hold 50 = .ok (.iconst 5, 1) := dgX12_hold_45.2.2.2.1
theorem dX12_hold_51 : decode cX12_hold 51 = .ok (.iload_n 2, 1) := dgX12_hold_45.2.2.2.2.1
theorem dX12_hold_52 : decode cX12_hold 52 = .ok (.imul, 1) := dgX12_hold_45.2.2.2.2.2.1
theorem dX12_hold_53 : decode cX12_hold 53 = .ok (.aload_n 0, 1) := dgX12_hold_45.2.2.2.2.2.2.1
theorem dX12_hold_54 : decode cX12_hold 54 = .ok (.getfield 70, 3) := dgX12_hold_45.2.2.2.2.2.2.2.1
theorem dX12_hold_57 : decode cX12_hold 57 = .ok (.iload_n 2, 1) := dgX12_hold_45.2.2.2.2.2.2.2.2.1
theorem dX12_hold_58 : decode cX12_hold 58 = .ok (.iaload, 1) := dgX12_hold_45.2.2.2.2.2.2.2.2.2.1
theorem dX12_hold_59 : decode cX12_hold 59 = .ok (.iadd, 1) := dgX12_hold_45.2.2.2.2.2.2.2.2.2.2.1
theorem dX12_hold_60 : decode cX12_hold 60 = .ok (.iload_n 1, 1) := dgX12_hold_45.2.2.2.2.2.2.2.2.2.2.2.1
theorem dgX12_hold_61 : (decode cX12_hold 61 = .ok (.bipush 100, 2)) ∧ (decode cX12_hold 63 = .ok (.irem, 1)) ∧ (decode cX12_hold 64 = .ok (.iastore, 1)) ∧ (decode cX12_hold 65 = .ok (.aload_n 0, 1)) ∧ (decode cX12_hold 66 = .ok (.getfield 70, 3)) ∧ (decode cX12_hold 69 = .ok (.iload_n 2, 1)) ∧ (decode cX12_hold 70 = .ok (.dup2, 1)) ∧ (decode cX12_hold 71 = .ok (.iaload, 1)) ∧ (decode cX12_hold 72 = .ok (.iconst 1, 1)) ∧ (decode cX12_hold 73 = .ok (.iadd, 1)) ∧ (decode cX12_hold 74 = .ok (.iastore, 1)) ∧ (decode cX12_hold 75 = .ok (.aload_n 0, 1)) ∧ True := dkW [(61, .bipush 100, 2), (63, .irem, 1), (64, .iastore, 1), (65, .aload_n 0, 1), (66, .getfield 70, 3), (69, .iload_n 2, 1), (70, .dup2, 1), (71, .iaload, 1), (72, .iconst 1, 1), (73, .iadd, 1), (74, .iastore, 1), (75, .aload_n 0, 1)] 61 (by decide +kernel)
theorem dX12_hold_61 : decode cX12_hold 61 = .ok (.bipush 100, 2) := dgX12_hold_61.1
theorem dX12_hold_63 : decode cX12_hold 63 = .ok (.irem, 1) := dgX12_hold_61.2.1
theorem dX12_hold_64 : decode cX12_hold 64 = .ok (.iastore, 1) := dgX12_hold_61.2.2.1
theorem dX12_hold_65 : decode cX12_hold 65 = .ok (.aload_n 0, 1) := dgX12_hold_61.2.2.2.1
theorem dX12_hold_66 : decode cX12_hold 66 = .ok (.getfield 70, 3) := dgX12_hold_61.2.2.2.2.1
theorem dX12_hold_69 : decode cX12_hold 69 = .ok (.iload_n 2, 1) := dgX12_hold_61.2.2.2.2.2.1
theorem dX12_hold_70 : decode cX12_hold 70 = .ok (.dup2, 1) := dgX12_hold_61.2.2.2.2.2.2.1
theorem dX12_hold_71 : decode cX12_hold 71 = .ok (.iaload, 1) := dgX12_hold_61.2.2.2.2.2.2.2.1
theorem dX12_hold_72 : decode cX12_hold 72 = .ok (.iconst 1, 1) := dgX12_hold_61.2.2.2.2.2.2.2.2.1
theorem dX12_hold_73 : decode cX12_hold 73 = .ok (.iadd, 1) := dgX12_hold_61.2.2.2.2.2.2.2.2.2.1
theorem dX12_hold_74 : decode cX12_hold 74 = .ok (.iastore, 1) := dgX12_hold_61.2.2.2.2.2.2.2.2.2.2.1
theorem dX12_hold_75 : decode cX12_hold 75 = .ok (.aload_n 0, 1) := dgX12_hold_61.2.2.2.2.2.2.2.2.2.2.2.1
theorem dgX12_hold_76 : (decode cX12_hold 76 = .ok (.getfield 70, 3)) ∧ (decode cX12_hold 79 = .ok (.iload_n 2, 1)) ∧ (decode cX12_hold 80 = .ok (.iaload, 1)) ∧ (decode cX12_hold 81 = .ok (.ireturn, 1)) ∧ True := dkW [(76, .getfield 70, 3), (79, .iload_n 2, 1), (80, .iaload, 1), (81, .ireturn, 1)] 76 (by decide +kernel)
theorem dX12_hold_76 : decode cX12_hold 76 = .ok (.getfield 70, 3) := dgX12_hold_76.1
theorem dX12_hold_79 : decode cX12_hold 79 = .ok (.iload_n 2, 1) := dgX12_hold_76.2.1
theorem dX12_hold_80 : decode cX12_hold 80 = .ok (.iaload, 1) := dgX12_hold_76.2.2.1
theorem dX12_hold_81 : decode cX12_hold 81 = .ok (.ireturn, 1) := dgX12_hold_76.2.2.2.1
abbrev rmX12_hold : Room := { frames := 1, cells := 0, slots := 0, locals := 23 }
noncomputable def fX12_hold_b26 (N : Nat)  (t : Nat) (h : Hs)  : Option (Int32 × Hs) :=
  some ((-1), h)
set_option maxHeartbeats 4000000 in
set_option maxRecDepth 20000 in
theorem wX12_hold_b26 {p : Program} {l : Launch} {e : Env} {s : State} {m : MethodId} {args : Array Value} {below : List Frame} {meth : Method} {c : Code} {G : Gl} {N : Nat} {h : Hs} {r : Int32 × Hs}  {t : Nat}  (C : Cx p s m args meth c cX12_hold RX12 3 G) (hret : meth.sig.returnType = (some .int))  (hf : fX12_hold_b26 N  t h  = some r) : V p l e rmX12_hold s m args below meth c G 3 (MQ below (QcG G (some (.inl r.1)) r.2) args s rmX12_hold.cells rmX12_hold.slots (AG G)) h 0 0 26 [some (.inr (some t)), none, none] [] := by
  unfold fX12_hold_b26 at hf
  refine r_iconst (v := -1) C dX12_hold_26 (by decide) ?_
  exact r_iretF C dX12_hold_27 hret hf (by decide) (by decide)
noncomputable def fX12_hold (N : Nat) (h : Hs) (t : Nat) (p1 : Int32) : Option (Int32 × Hs) :=
  (fX12_in N h p1 0 1599).bind fun r1 =>
  if r1.1 = 0 then (
  fX12_hold_b26 N t r1.2)
  else (rc 12 r1.2 (some t)).bind fun a3 =>
  (fX12_isCaught N r1.2 a3 (p1 / 100) (p1 - p1 / 100 * 100)).bind fun r2 =>
  if r2.1 = 0 then (
  (some (p1 / 100)).bind fun y4 =>
  (oR 12 26 r2.2 (some t)).bind fun o5 =>
  (lA 20 r2.2 o5 y4).bind fun v6 =>
  if v6 = 5 then (
  some ((-3), r2.2))
  else (oR 12 27 r2.2 (some t)).bind fun o7 =>
  (oR 12 26 r2.2 (some t)).bind fun o8 =>
  (lA 20 r2.2 o8 y4).bind fun v9 =>
  (sA r2.2 o7 ((5 * y4) + v9) (p1 - p1 / 100 * 100)).bind fun h10 =>
  (oR 12 26 h10 (some t)).bind fun o11 =>
  (lA 20 h10 o11 y4).bind fun v12 =>
  (sA h10 o11 y4 (v12 + 1)).bind fun h13 =>
  (oR 12 26 h13 (some t)).bind fun o14 =>
  (lA 20 h13 o14 y4).bind fun v15 =>
  some (v15, h13))
  else fX12_hold_b26 N t r2.2
set_option maxHeartbeats 4000000 in
set_option maxRecDepth 20000 in
theorem kX12_hold (l : Launch) (G : Gl) {N : Nat} {h : Hs} {t : Nat} {p1 : Int32} {r : Int32 × Hs} (hf : fX12_hold N h t p1 = some r) : CT l G yX12_hold cX12_hold 3 (some .int) rmX12_hold [.inr (some t), .inl p1] h (some (.inl r.1)) r.2 := by
  refine mk_CT (by decide) (Nat.le_of_ble_eq_true rfl) ?_
  intro p e s m args below meth c C hret hin
  unfold fX12_hold at hf
  refine r_iload_n C dX12_hold_0 rfl ?_
  refine r_iconst (v := 0) C dX12_hold_1 (by decide) ?_
  refine r_sipush (v := 1599) C dX12_hold_2 (by decide) ?_
  obtain ⟨r1, er1, hf⟩ := bS hf
  refine r_invS1 (As := [.inl p1, .inl 0, .inl 1599]) C dX12_hold_5 mcX12_in wd_1185 wd_1186 ⟨by decide, by decide⟩ ⟨by decide, by decide⟩ rfl (Nat.le_of_ble_eq_true rfl) (kX12_in l G er1) ?_
  refine r_if_eq (tgt := 26) C dX12_hold_8 (by decide) (fun hc => ?_) (fun hc => ?_)
  · have hf := ifT hf hc
    exact V.sub (wX12_hold_b26 C hret hf) (LW_s rfl (LW_n (LW_n (LW_e))))
  · have hf := ifF hf hc
    refine r_aload_n C dX12_hold_11 rfl ?_
    refine r_iload_n C dX12_hold_12 rfl ?_
    refine r_bipush (v := 100) C dX12_hold_13 (by decide) ?_
    refine r_idivK C dX12_hold_15 (by decide) ?_
    refine r_iload_n C dX12_hold_16 rfl ?_
    refine r_bipush (v := 100) C dX12_hold_17 (by decide) ?_
    refine r_iremK C dX12_hold_19 (by decide) ?_
    obtain ⟨a3, ea3, hf⟩ := bS hf
    obtain ⟨r2, er2, hf⟩ := bS hf
    refine r_invV1 (As := [.inl (p1 / 100), .inl (p1 - p1 / 100 * 100)]) (ci := 12) C dX12_hold_20 mcX12_isCaught wd_1301 wd_1303 wp_44 rfl rfl (by decide) ⟨by decide, by decide⟩ ⟨by decide, by decide⟩ rfl (Nat.le_of_ble_eq_true rfl) ea3 (kX12_isCaught l G er2) ?_
    refine r_if_eq (tgt := 28) C dX12_hold_23 (by decide) (fun hc => ?_) (fun hc => ?_)
    · have hf := ifT hf hc
      refine r_iload_n C dX12_hold_28 rfl ?_
      refine r_bipush (v := 100) C dX12_hold_29 (by decide) ?_
      refine r_idivK C dX12_hold_31 (by decide) ?_
      obtain ⟨y4, ey4, hf⟩ := bS hf
      refine r_istore_nE C dX12_hold_32 (by decide) ey4 ?_
      refine r_aload_n C dX12_hold_33 rfl ?_
      obtain ⟨o5, eo5, hf⟩ := bS hf
      refine r_getR C dX12_hold_34 fl_X12_70 rfl eo5 ?_
      refine r_iload_n C dX12_hold_37 rfl ?_
      obtain ⟨v6, ev6, hf⟩ := bS hf
      refine r_iald C dX12_hold_38 ev6 ?_
      refine r_iconst (v := 5) C dX12_hold_39 (by decide) ?_
      refine r_icmp_ne (tgt := 46) C dX12_hold_40 (by decide) (fun hc => ?_) (fun hc => ?_)
      · have hf := ifF hf hc
        refine r_aload_n C dX12_hold_46 rfl ?_
        obtain ⟨o7, eo7, hf⟩ := bS hf
        refine r_getR C dX12_hold_47 fl_X12_73 rfl eo7 ?_
        refine r_iconst (v := 5) C dX12_hold_50 (by decide) ?_
        refine r_iload_n C dX12_hold_51 rfl ?_
        refine r_imul C dX12_hold_52 ?_
        refine r_aload_n C dX12_hold_53 rfl ?_
        obtain ⟨o8, eo8, hf⟩ := bS hf
        refine r_getR C dX12_hold_54 fl_X12_70 rfl eo8 ?_
        refine r_iload_n C dX12_hold_57 rfl ?_
        obtain ⟨v9, ev9, hf⟩ := bS hf
        refine r_iald C dX12_hold_58 ev9 ?_
        refine r_iadd C dX12_hold_59 ?_
        refine r_iload_n C dX12_hold_60 rfl ?_
        refine r_bipush (v := 100) C dX12_hold_61 (by decide) ?_
        refine r_iremK C dX12_hold_63 (by decide) ?_
        obtain ⟨h10, eh10, hf⟩ := bS hf
        refine r_iast C dX12_hold_64 eh10 ?_
        refine r_aload_n C dX12_hold_65 rfl ?_
        obtain ⟨o11, eo11, hf⟩ := bS hf
        refine r_getR C dX12_hold_66 fl_X12_70 rfl eo11 ?_
        refine r_iload_n C dX12_hold_69 rfl ?_
        refine r_dup2 C dX12_hold_70 ?_
        obtain ⟨v12, ev12, hf⟩ := bS hf
        refine r_iald C dX12_hold_71 ev12 ?_
        refine r_iconst (v := 1) C dX12_hold_72 (by decide) ?_
        refine r_iadd C dX12_hold_73 ?_
        obtain ⟨h13, eh13, hf⟩ := bS hf
        refine r_iast C dX12_hold_74 eh13 ?_
        refine r_aload_n C dX12_hold_75 rfl ?_
        obtain ⟨o14, eo14, hf⟩ := bS hf
        refine r_getR C dX12_hold_76 fl_X12_70 rfl eo14 ?_
        refine r_iload_n C dX12_hold_79 rfl ?_
        obtain ⟨v15, ev15, hf⟩ := bS hf
        refine r_iald C dX12_hold_80 ev15 ?_
        exact r_iretF C dX12_hold_81 hret hf (by decide) (by decide)
      · have hf := ifT hf hc
        refine r_bipush (v := -3) C dX12_hold_43 (by decide) ?_
        exact r_iretF C dX12_hold_45 hret hf (by decide) (by decide)
    · have hf := ifF hf hc
      exact V.sub (wX12_hold_b26 C hret hf) (LW_s rfl (LW_n (LW_n (LW_e))))

theorem dgX12_snap_0 : (decode cX12_snap 0 = .ok (.aload_n 0, 1)) ∧ (decode cX12_snap 1 = .ok (.iload_n 1, 1)) ∧ (decode cX12_snap 2 = .ok (.invokevirtual 174, 3)) ∧ (decode cX12_snap 5 = .ok (.ifCond .ne 5, 3)) ∧ True := dkW [(0, .aload_n 0, 1), (1, .iload_n 1, 1), (2, .invokevirtual 174, 3), (5, .ifCond .ne 5, 3)] 0 (by decide +kernel)
theorem dX12_snap_0 : decode cX12_snap 0 = .ok (.aload_n 0, 1) := dgX12_snap_0.1
theorem dX12_snap_1 : decode cX12_snap 1 = .ok (.iload_n 1, 1) := dgX12_snap_0.2.1
theorem dX12_snap_2 : decode cX12_snap 2 = .ok (.invokevirtual 174, 3) := dgX12_snap_0.2.2.1
theorem dX12_snap_5 : decode cX12_snap 5 = .ok (.ifCond .ne 5, 3) := dgX12_snap_0.2.2.2.1
theorem dX12_snap_8 : decode cX12_snap 8 = .ok (.iconst (-1), 1) := by decide +kernel
theorem dgX12_snap_9 : (decode cX12_snap 9 = .ok (.ireturn, 1)) ∧ (decode cX12_snap 10 = .ok (.aload_n 0, 1)) ∧ (decode cX12_snap 11 = .ok (.getfield 46, 3)) ∧ (decode cX12_snap 14 = .ok (.iload_n 1, 1)) ∧ (decode cX12_snap 15 = .ok (.iaload, 1)) ∧ (decode cX12_snap 16 = .ok (.ifCond .ge 6, 3)) ∧ (decode cX12_snap 19 = .ok (.bipush (-2), 2)) ∧ (decode cX12_snap 21 = .ok (.ireturn, 1)) ∧ (decode cX12_snap 22 = .ok (.aload_n 0, 1)) ∧ (decode cX12_snap 23 = .ok (.getfield 34, 3)) ∧ (decode cX12_snap 26 = .ok (.iload_n 1, 1)) ∧ (decode cX12_snap 27 = .ok (.iaload, 1)) ∧ True := dkW [(9, .ireturn, 1), (10, .aload_n 0, 1), (11, .getfield 46, 3), (14, .iload_n 1, 1), (15, .iaload, 1), (16, .ifCond .ge 6, 3), (19, .bipush (-2), 2), (21, .ireturn, 1), (22, .aload_n 0, 1), (23, .getfield 34, 3), (26, .iload_n 1, 1), (27, .iaload, 1)] 9 (by decide +kernel)
theorem dX12_snap_9 : decode cX12_snap 9 = .ok (.ireturn, 1) := dgX12_snap_9.1
theorem dX12_snap_10 : decode cX12_snap 10 = .ok (.aload_n 0, 1) := dgX12_snap_9.2.1
theorem dX12_snap_11 : decode cX12_snap 11 = .ok (.getfield 46, 3) := dgX12_snap_9.2.2.1
theorem dX12_snap_14 : decode cX12_snap 14 = .ok (.iload_n 1, 1) := dgX12_snap_9.2.2.2.1
theorem dX12_snap_15 : decode cX12_snap 15 = .ok (.iaload, 1) := dgX12_snap_9.2.2.2.2.1
theorem dX12_snap_16 : decode cX12_snap 16 = .ok (.ifCond .ge 6, 3) := dgX12_snap_9.2.2.2.2.2.1
theorem dX12_snap_19 : decode cX12_snap 19 = .ok (.bipush (-2), 2) := dgX12_snap_9.2.2.2.2.2.2.1
theorem dX12_snap_21 : decode cX12_snap 21 = .ok (.ireturn, 1) := dgX12_snap_9.2.2.2.2.2.2.2.1
theorem dX12_snap_22 : decode cX12_snap 22 = .ok (.aload_n 0, 1) := dgX12_snap_9.2.2.2.2.2.2.2.2.1
theorem dX12_snap_23 : decode cX12_snap 23 = .ok (.getfield 34, 3) := dgX12_snap_9.2.2.2.2.2.2.2.2.2.1
theorem dX12_snap_26 : decode cX12_snap 26 = .ok (.iload_n 1, 1) := dgX12_snap_9.2.2.2.2.2.2.2.2.2.2.1
theorem dX12_snap_27 : decode cX12_snap 27 = .ok (.iaload, 1) := dgX12_snap_9.2.2.2.2.2.2.2.2.2.2.2.1
theorem dgX12_snap_28 : (decode cX12_snap 28 = .ok (.istore_n 2, 1)) ∧ (decode cX12_snap 29 = .ok (.aload_n 0, 1)) ∧ (decode cX12_snap 30 = .ok (.getfield 19, 3)) ∧ (decode cX12_snap 33 = .ok (.iload_n 2, 1)) ∧ (decode cX12_snap 34 = .ok (.iaload, 1)) ∧ (decode cX12_snap 35 = .ok (.aload_n 0, 1)) ∧ (decode cX12_snap 36 = .ok (.getfield 28, 3)) ∧ (decode cX12_snap 39 = .ok (.iload_n 2, 1)) ∧ (decode cX12_snap 40 = .ok (.iaload, 1)) ∧ (decode cX12_snap 41 = .ok (.if_icmp .ge 19, 3)) ∧ (decode cX12_snap 44 = .ok (.aload_n 0, 1)) ∧ (decode cX12_snap 45 = .ok (.getfield 28, 3)) ∧ True := dkW [(28, .istore_n 2, 1), (29, .aload_n 0, 1), (30, .getfield 19, 3), (33, .iload_n 2, 1), (34, .iaload, 1), (35, .aload_n 0, 1), (36, .getfield 28, 3), (39, .iload_n 2, 1), (40, .iaload, 1), (41, .if_icmp .ge 19, 3), (44, .aload_n 0, 1), (45, .getfield 28, 3)] 28 (by decide +kernel)
theorem dX12_snap_28 : decode cX12_snap 28 = .ok (.istore_n 2, 1) := dgX12_snap_28.1
theorem dX12_snap_29 : decode cX12_snap 29 = .ok (.aload_n 0, 1) := dgX12_snap_28.2.1
theorem dX12_snap_30 : decode cX12_snap 30 = .ok (.getfield 19, 3) := dgX12_snap_28.2.2.1
theorem dX12_snap_33 : decode cX12_snap 33 = .ok (.iload_n 2, 1) := dgX12_snap_28.2.2.2.1
theorem dX12_snap_34 : decode cX12_snap 34 = .ok (.iaload, 1) := dgX12_snap_28.2.2.2.2.1
theorem dX12_snap_35 : decode cX12_snap 35 = .ok (.aload_n 0, 1) := dgX12_snap_28.2.2.2.2.2.1
theorem dX12_snap_36 : decode cX12_snap 36 = .ok (.getfield 28, 3) := dgX12_snap_28.2.2.2.2.2.2.1
theorem dX12_snap_39 : decode cX12_snap 39 = .ok (.iload_n 2, 1) := dgX12_snap_28.2.2.2.2.2.2.2.1
theorem dX12_snap_40 : decode cX12_snap 40 = .ok (.iaload, 1) := dgX12_snap_28.2.2.2.2.2.2.2.2.1
theorem dX12_snap_41 : decode cX12_snap 41 = .ok (.if_icmp .ge 19, 3) := dgX12_snap_28.2.2.2.2.2.2.2.2.2.1
theorem dX12_snap_44 : decode cX12_snap 44 = .ok (.aload_n 0, 1) := dgX12_snap_28.2.2.2.2.2.2.2.2.2.2.1
theorem dX12_snap_45 : decode cX12_snap 45 = .ok (.getfield 28, 3) := dgX12_snap_28.2.2.2.2.2.2.2.2.2.2.2.1
theorem dgX12_snap_48 : (decode cX12_snap 48 = .ok (.iload_n 2, 1)) ∧ (decode cX12_snap 49 = .ok (.iaload, 1)) ∧ (decode cX12_snap 50 = .ok (.aload_n 0, 1)) ∧ (decode cX12_snap 51 = .ok (.getfield 19, 3)) ∧ (decode cX12_snap 54 = .ok (.iload_n 2, 1)) ∧ (decode cX12_snap 55 = .ok (.iaload, 1)) ∧ (decode cX12_snap 56 = .ok (.isub, 1)) ∧ (decode cX12_snap 57 = .ok (.goto 16, 3)) ∧ (decode cX12_snap 60 = .ok (.aload_n 0, 1)) ∧ (decode cX12_snap 61 = .ok (.getfield 19, 3)) ∧ (decode cX12_snap 64 = .ok (.iload_n 2, 1)) ∧ (decode cX12_snap 65 = .ok (.iaload, 1)) ∧ True := dkW [(48, .iload_n 2, 1), (49, .iaload, 1), (50, .aload_n 0, 1), (51, .getfield 19, 3), (54, .iload_n 2, 1), (55, .iaload, 1), (56, .isub, 1), (57, .goto 16, 3), (60, .aload_n 0, 1), (61, .getfield 19, 3), (64, .iload_n 2, 1), (65, .iaload, 1)] 48 (by decide +kernel)
theorem dX12_snap_48 : decode cX12_snap 48 = .ok (.iload_n 2, 1) := dgX12_snap_48.1
theorem dX12_snap_49 : decode cX12_snap 49 = .ok (.iaload, 1) := dgX12_snap_48.2.1
theorem dX12_snap_50 : decode cX12_snap 50 = .ok (.aload_n 0, 1) := dgX12_snap_48.2.2.1
theorem dX12_snap_51 : decode cX12_snap 51 = .ok (.getfield 19, 3) := dgX12_snap_48.2.2.2.1
theorem dX12_snap_54 : decode cX12_snap 54 = .ok (.iload_n 2, 1) := dgX12_snap_48.2.2.2.2.1
theorem dX12_snap_55 : decode cX12_snap 55 = .ok (.iaload, 1) := dgX12_snap_48.2.2.2.2.2.1
theorem dX12_snap_56 : decode cX12_snap 56 = .ok (.isub, 1) := dgX12_snap_48.2.2.2.2.2.2.1
theorem dX12_snap_57 : decode cX12_snap 57 = .ok (.goto 16, 3) := dgX12_snap_48.2.2.2.2.2.2.2.1
theorem dX12_snap_60 : decode cX12_snap 60 = .ok (.aload_n 0, 1) := dgX12_snap_48.2.2.2.2.2.2.2.2.1
theorem dX12_snap_61 : decode cX12_snap 61 = .ok (.getfield 19, 3) := dgX12_snap_48.2.2.2.2.2.2.2.2.2.1
theorem dX12_snap_64 : decode cX12_snap 64 = .ok (.iload_n 2, 1) := dgX12_snap_48.2.2.2.2.2.2.2.2.2.2.1
theorem dX12_snap_65 : decode cX12_snap 65 = .ok (.iaload, 1) := dgX12_snap_48.2.2.2.2.2.2.2.2.2.2.2.1
theorem dgX12_snap_66 : (decode cX12_snap 66 = .ok (.aload_n 0, 1)) ∧ (decode cX12_snap 67 = .ok (.getfield 28, 3)) ∧ (decode cX12_snap 70 = .ok (.iload_n 2, 1)) ∧ (decode cX12_snap 71 = .ok (.iaload, 1)) ∧ (decode cX12_snap 72 = .ok (.isub, 1)) ∧ (decode cX12_snap 73 = .ok (.istore_n 3, 1)) ∧ (decode cX12_snap 74 = .ok (.aload_n 0, 1)) ∧ (decode cX12_snap 75 = .ok (.getfield 49, 3)) ∧ (decode cX12_snap 78 = .ok (.iload_n 1, 1)) ∧ (decode cX12_snap 79 = .ok (.iaload, 1)) ∧ (decode cX12_snap 80 = .ok (.ifCond .gt 5, 3)) ∧ (decode cX12_snap 83 = .ok (.iconst 0, 1)) ∧ True := dkW [(66, .aload_n 0, 1), (67, .getfield 28, 3), (70, .iload_n 2, 1), (71, .iaload, 1), (72, .isub, 1), (73, .istore_n 3, 1), (74, .aload_n 0, 1), (75, .getfield 49, 3), (78, .iload_n 1, 1), (79, .iaload, 1), (80, .ifCond .gt 5, 3), (83, .iconst 0, 1)] 66 (by decide +kernel)
theorem dX12_snap_66 : decode cX12_snap 66 = .ok (.aload_n 0, 1) := dgX12_snap_66.1
theorem dX12_snap_67 : decode cX12_snap 67 = .ok (.getfield 28, 3) := dgX12_snap_66.2.1
theorem dX12_snap_70 : decode cX12_snap 70 = .ok (.iload_n 2, 1) := dgX12_snap_66.2.2.1
theorem dX12_snap_71 : decode cX12_snap 71 = .ok (.iaload, 1) := dgX12_snap_66.2.2.2.1
theorem dX12_snap_72 : decode cX12_snap 72 = .ok (.isub, 1) := dgX12_snap_66.2.2.2.2.1
theorem dX12_snap_73 : decode cX12_snap 73 = .ok (.istore_n 3, 1) := dgX12_snap_66.2.2.2.2.2.1
theorem dX12_snap_74 : decode cX12_snap 74 = .ok (.aload_n 0, 1) := dgX12_snap_66.2.2.2.2.2.2.1
theorem dX12_snap_75 : decode cX12_snap 75 = .ok (.getfield 49, 3) := dgX12_snap_66.2.2.2.2.2.2.2.1
theorem dX12_snap_78 : decode cX12_snap 78 = .ok (.iload_n 1, 1) := dgX12_snap_66.2.2.2.2.2.2.2.2.1
theorem dX12_snap_79 : decode cX12_snap 79 = .ok (.iaload, 1) := dgX12_snap_66.2.2.2.2.2.2.2.2.2.1
theorem dX12_snap_80 : decode cX12_snap 80 = .ok (.ifCond .gt 5, 3) := dgX12_snap_66.2.2.2.2.2.2.2.2.2.2.1
theorem dX12_snap_83 : decode cX12_snap 83 = .ok (.iconst 0, 1) := dgX12_snap_66.2.2.2.2.2.2.2.2.2.2.2.1
theorem dgX12_snap_84 : (decode cX12_snap 84 = .ok (.istore_n 3, 1)) ∧ (decode cX12_snap 85 = .ok (.aload_n 0, 1)) ∧ (decode cX12_snap 86 = .ok (.getfield 46, 3)) ∧ (decode cX12_snap 89 = .ok (.iload_n 1, 1)) ∧ True := dkW [(84, .istore_n 3, 1), (85, .aload_n 0, 1), (86, .getfield 46, 3), (89, .iload_n 1, 1)] 84 (by decide +kernel)
theorem dX12_snap_84 : decode cX12_snap 84 = .ok (.istore_n 3, 1) := dgX12_snap_84.1
theorem dX12_snap_85 : decode cX12_snap 85 = .ok (.aload_n 0, 1) := dgX12_snap_84.2.1
theorem dX12_snap_86 : decode cX12_snap 86 = .ok (.getfield 46, 3) := dgX12_snap_84.2.2.1
theorem dX12_snap_89 : decode cX12_snap 89 = .ok (.iload_n 1, 1) := dgX12_snap_84.2.2.2.1
theorem dX12_snap_90 : decode cX12_snap 90 = .ok (.iconst (-1), 1) := by decide +kernel
theorem dgX12_snap_91 : (decode cX12_snap 91 = .ok (.iastore, 1)) ∧ (decode cX12_snap 92 = .ok (.aload_n 0, 1)) ∧ (decode cX12_snap 93 = .ok (.getfield 52, 3)) ∧ (decode cX12_snap 96 = .ok (.iload_n 1, 1)) ∧ (decode cX12_snap 97 = .ok (.iconst 1, 1)) ∧ (decode cX12_snap 98 = .ok (.bastore, 1)) ∧ (decode cX12_snap 99 = .ok (.aload_n 0, 1)) ∧ (decode cX12_snap 100 = .ok (.iconst 0, 1)) ∧ (decode cX12_snap 101 = .ok (.putfield 162, 3)) ∧ (decode cX12_snap 104 = .ok (.iconst 0, 1)) ∧ (decode cX12_snap 105 = .ok (.istore 4, 2)) ∧ (decode cX12_snap 107 = .ok (.iload 4, 2)) ∧ True := dkW [(91, .iastore, 1), (92, .aload_n 0, 1), (93, .getfield 52, 3), (96, .iload_n 1, 1), (97, .iconst 1, 1), (98, .bastore, 1), (99, .aload_n 0, 1), (100, .iconst 0, 1), (101, .putfield 162, 3), (104, .iconst 0, 1), (105, .istore 4, 2), (107, .iload 4, 2)] 91 (by decide +kernel)
theorem dX12_snap_91 : decode cX12_snap 91 = .ok (.iastore, 1) := dgX12_snap_91.1
theorem dX12_snap_92 : decode cX12_snap 92 = .ok (.aload_n 0, 1) := dgX12_snap_91.2.1
theorem dX12_snap_93 : decode cX12_snap 93 = .ok (.getfield 52, 3) := dgX12_snap_91.2.2.1
theorem dX12_snap_96 : decode cX12_snap 96 = .ok (.iload_n 1, 1) := dgX12_snap_91.2.2.2.1
theorem dX12_snap_97 : decode cX12_snap 97 = .ok (.iconst 1, 1) := dgX12_snap_91.2.2.2.2.1
theorem dX12_snap_98 : decode cX12_snap 98 = .ok (.bastore, 1) := dgX12_snap_91.2.2.2.2.2.1
theorem dX12_snap_99 : decode cX12_snap 99 = .ok (.aload_n 0, 1) := dgX12_snap_91.2.2.2.2.2.2.1
theorem dX12_snap_100 : decode cX12_snap 100 = .ok (.iconst 0, 1) := dgX12_snap_91.2.2.2.2.2.2.2.1
theorem dX12_snap_101 : decode cX12_snap 101 = .ok (.putfield 162, 3) := dgX12_snap_91.2.2.2.2.2.2.2.2.1
theorem dX12_snap_104 : decode cX12_snap 104 = .ok (.iconst 0, 1) := dgX12_snap_91.2.2.2.2.2.2.2.2.2.1
theorem dX12_snap_105 : decode cX12_snap 105 = .ok (.istore 4, 2) := dgX12_snap_91.2.2.2.2.2.2.2.2.2.2.1
theorem dX12_snap_107 : decode cX12_snap 107 = .ok (.iload 4, 2) := dgX12_snap_91.2.2.2.2.2.2.2.2.2.2.2.1
theorem dgX12_snap_109 : (decode cX12_snap 109 = .ok (.iload_n 3, 1)) ∧ (decode cX12_snap 110 = .ok (.if_icmp .ge 64, 3)) ∧ (decode cX12_snap 113 = .ok (.aload_n 0, 1)) ∧ (decode cX12_snap 114 = .ok (.aload_n 0, 1)) ∧ (decode cX12_snap 115 = .ok (.getfield 7, 3)) ∧ (decode cX12_snap 118 = .ok (.iload_n 2, 1)) ∧ (decode cX12_snap 119 = .ok (.iaload, 1)) ∧ (decode cX12_snap 120 = .ok (.aload_n 0, 1)) ∧ (decode cX12_snap 121 = .ok (.getfield 19, 3)) ∧ (decode cX12_snap 124 = .ok (.iload_n 2, 1)) ∧ (decode cX12_snap 125 = .ok (.iaload, 1)) ∧ (decode cX12_snap 126 = .ok (.invokevirtual 223, 3)) ∧ True := dkW [(109, .iload_n 3, 1), (110, .if_icmp .ge 64, 3), (113, .aload_n 0, 1), (114, .aload_n 0, 1), (115, .getfield 7, 3), (118, .iload_n 2, 1), (119, .iaload, 1), (120, .aload_n 0, 1), (121, .getfield 19, 3), (124, .iload_n 2, 1), (125, .iaload, 1), (126, .invokevirtual 223, 3)] 109 (by decide +kernel)
theorem dX12_snap_109 : decode cX12_snap 109 = .ok (.iload_n 3, 1) := dgX12_snap_109.1
theorem dX12_snap_110 : decode cX12_snap 110 = .ok (.if_icmp .ge 64, 3) := dgX12_snap_109.2.1
theorem dX12_snap_113 : decode cX12_snap 113 = .ok (.aload_n 0, 1) := dgX12_snap_109.2.2.1
theorem dX12_snap_114 : decode cX12_snap 114 = .ok (.aload_n 0, 1) := dgX12_snap_109.2.2.2.1
theorem dX12_snap_115 : decode cX12_snap 115 = .ok (.getfield 7, 3) := dgX12_snap_109.2.2.2.2.1
theorem dX12_snap_118 : decode cX12_snap 118 = .ok (.iload_n 2, 1) := dgX12_snap_109.2.2.2.2.2.1
theorem dX12_snap_119 : decode cX12_snap 119 = .ok (.iaload, 1) := dgX12_snap_109.2.2.2.2.2.2.1
theorem dX12_snap_120 : decode cX12_snap 120 = .ok (.aload_n 0, 1) := dgX12_snap_109.2.2.2.2.2.2.2.1
theorem dX12_snap_121 : decode cX12_snap 121 = .ok (.getfield 19, 3) := dgX12_snap_109.2.2.2.2.2.2.2.2.1
theorem dX12_snap_124 : decode cX12_snap 124 = .ok (.iload_n 2, 1) := dgX12_snap_109.2.2.2.2.2.2.2.2.2.1
theorem dX12_snap_125 : decode cX12_snap 125 = .ok (.iaload, 1) := dgX12_snap_109.2.2.2.2.2.2.2.2.2.2.1
theorem dX12_snap_126 : decode cX12_snap 126 = .ok (.invokevirtual 223, 3) := dgX12_snap_109.2.2.2.2.2.2.2.2.2.2.2.1
theorem dgX12_snap_129 : (decode cX12_snap 129 = .ok (.ifCond .ne 45, 3)) ∧ (decode cX12_snap 132 = .ok (.aload_n 0, 1)) ∧ (decode cX12_snap 133 = .ok (.iload_n 2, 1)) ∧ (decode cX12_snap 134 = .ok (.aload_n 0, 1)) ∧ (decode cX12_snap 135 = .ok (.getfield 19, 3)) ∧ (decode cX12_snap 138 = .ok (.iload_n 2, 1)) ∧ (decode cX12_snap 139 = .ok (.iaload, 1)) ∧ (decode cX12_snap 140 = .ok (.aload_n 0, 1)) ∧ (decode cX12_snap 141 = .ok (.getfield 40, 3)) ∧ (decode cX12_snap 144 = .ok (.iload_n 1, 1)) ∧ (decode cX12_snap 145 = .ok (.iaload, 1)) ∧ (decode cX12_snap 146 = .ok (.isub, 1)) ∧ True := dkW [(129, .ifCond .ne 45, 3), (132, .aload_n 0, 1), (133, .iload_n 2, 1), (134, .aload_n 0, 1), (135, .getfield 19, 3), (138, .iload_n 2, 1), (139, .iaload, 1), (140, .aload_n 0, 1), (141, .getfield 40, 3), (144, .iload_n 1, 1), (145, .iaload, 1), (146, .isub, 1)] 129 (by decide +kernel)
theorem dX12_snap_129 : decode cX12_snap 129 = .ok (.ifCond .ne 45, 3) := dgX12_snap_129.1
theorem dX12_snap_132 : decode cX12_snap 132 = .ok (.aload_n 0, 1) := dgX12_snap_129.2.1
theorem dX12_snap_133 : decode cX12_snap 133 = .ok (.iload_n 2, 1) := dgX12_snap_129.2.2.1
theorem dX12_snap_134 : decode cX12_snap 134 = .ok (.aload_n 0, 1) := dgX12_snap_129.2.2.2.1
theorem dX12_snap_135 : decode cX12_snap 135 = .ok (.getfield 19, 3) := dgX12_snap_129.2.2.2.2.1
theorem dX12_snap_138 : decode cX12_snap 138 = .ok (.iload_n 2, 1) := dgX12_snap_129.2.2.2.2.2.1
theorem dX12_snap_139 : decode cX12_snap 139 = .ok (.iaload, 1) := dgX12_snap_129.2.2.2.2.2.2.1
theorem dX12_snap_140 : decode cX12_snap 140 = .ok (.aload_n 0, 1) := dgX12_snap_129.2.2.2.2.2.2.2.1
theorem dX12_snap_141 : decode cX12_snap 141 = .ok (.getfield 40, 3) := dgX12_snap_129.2.2.2.2.2.2.2.2.1
theorem dX12_snap_144 : decode cX12_snap 144 = .ok (.iload_n 1, 1) := dgX12_snap_129.2.2.2.2.2.2.2.2.2.1
theorem dX12_snap_145 : decode cX12_snap 145 = .ok (.iaload, 1) := dgX12_snap_129.2.2.2.2.2.2.2.2.2.2.1
theorem dX12_snap_146 : decode cX12_snap 146 = .ok (.isub, 1) := dgX12_snap_129.2.2.2.2.2.2.2.2.2.2.2.1
theorem dgX12_snap_147 : (decode cX12_snap 147 = .ok (.invokevirtual 197, 3)) ∧ (decode cX12_snap 150 = .ok (.ifCond .ge 24, 3)) ∧ (decode cX12_snap 153 = .ok (.aload_n 0, 1)) ∧ (decode cX12_snap 154 = .ok (.getfield 19, 3)) ∧ (decode cX12_snap 157 = .ok (.iload_n 2, 1)) ∧ (decode cX12_snap 158 = .ok (.dup2, 1)) ∧ (decode cX12_snap 159 = .ok (.iaload, 1)) ∧ (decode cX12_snap 160 = .ok (.aload_n 0, 1)) ∧ (decode cX12_snap 161 = .ok (.getfield 40, 3)) ∧ (decode cX12_snap 164 = .ok (.iload_n 1, 1)) ∧ (decode cX12_snap 165 = .ok (.iaload, 1)) ∧ (decode cX12_snap 166 = .ok (.isub, 1)) ∧ True := dkW [(147, .invokevirtual 197, 3), (150, .ifCond .ge 24, 3), (153, .aload_n 0, 1), (154, .getfield 19, 3), (157, .iload_n 2, 1), (158, .dup2, 1), (159, .iaload, 1), (160, .aload_n 0, 1), (161, .getfield 40, 3), (164, .iload_n 1, 1), (165, .iaload, 1), (166, .isub, 1)] 147 (by decide +kernel)
theorem dX12_snap_147 : decode cX12_snap 147 = .ok (.invokevirtual 197, 3) := dgX12_snap_147.1
theorem dX12_snap_150 : decode cX12_snap 150 = .ok (.ifCond .ge 24, 3) := dgX12_snap_147.2.1
theorem dX12_snap_153 : decode cX12_snap 153 = .ok (.aload_n 0, 1) := dgX12_snap_147.2.2.1
theorem dX12_snap_154 : decode cX12_snap 154 = .ok (.getfield 19, 3) := dgX12_snap_147.2.2.2.1
theorem dX12_snap_157 : decode cX12_snap 157 = .ok (.iload_n 2, 1) := dgX12_snap_147.2.2.2.2.1
theorem dX12_snap_158 : decode cX12_snap 158 = .ok (.dup2, 1) := dgX12_snap_147.2.2.2.2.2.1
theorem dX12_snap_159 : decode cX12_snap 159 = .ok (.iaload, 1) := dgX12_snap_147.2.2.2.2.2.2.1
theorem dX12_snap_160 : decode cX12_snap 160 = .ok (.aload_n 0, 1) := dgX12_snap_147.2.2.2.2.2.2.2.1
theorem dX12_snap_161 : decode cX12_snap 161 = .ok (.getfield 40, 3) := dgX12_snap_147.2.2.2.2.2.2.2.2.1
theorem dX12_snap_164 : decode cX12_snap 164 = .ok (.iload_n 1, 1) := dgX12_snap_147.2.2.2.2.2.2.2.2.2.1
theorem dX12_snap_165 : decode cX12_snap 165 = .ok (.iaload, 1) := dgX12_snap_147.2.2.2.2.2.2.2.2.2.2.1
theorem dX12_snap_166 : decode cX12_snap 166 = .ok (.isub, 1) := dgX12_snap_147.2.2.2.2.2.2.2.2.2.2.2.1
theorem dgX12_snap_167 : (decode cX12_snap 167 = .ok (.iastore, 1)) ∧ (decode cX12_snap 168 = .ok (.iinc 4 1, 3)) ∧ (decode cX12_snap 171 = .ok (.goto (-64), 3)) ∧ (decode cX12_snap 174 = .ok (.iload 4, 2)) ∧ (decode cX12_snap 176 = .ok (.ireturn, 1)) ∧ True := dkW [(167, .iastore, 1), (168, .iinc 4 1, 3), (171, .goto (-64), 3), (174, .iload 4, 2), (176, .ireturn, 1)] 167 (by decide +kernel)
theorem dX12_snap_167 : decode cX12_snap 167 = .ok (.iastore, 1) := dgX12_snap_167.1
theorem dX12_snap_168 : decode cX12_snap 168 = .ok (.iinc 4 1, 3) := dgX12_snap_167.2.1
theorem dX12_snap_171 : decode cX12_snap 171 = .ok (.goto (-64), 3) := dgX12_snap_167.2.2.1
theorem dX12_snap_174 : decode cX12_snap 174 = .ok (.iload 4, 2) := dgX12_snap_167.2.2.2.1
theorem dX12_snap_176 : decode cX12_snap 176 = .ok (.ireturn, 1) := dgX12_snap_167.2.2.2.2.1
abbrev rmX12_snap : Room := { frames := 2, cells := 0, slots := 0, locals := 46 }
noncomputable def fX12_snap_b174 (N : Nat)  (t : Nat) (h : Hs) (x4 : Int32) : Option (Int32 × Hs) :=
  some (x4, h)
set_option maxHeartbeats 4000000 in
set_option maxRecDepth 20000 in
theorem wX12_snap_b174 {p : Program} {l : Launch} {e : Env} {s : State} {m : MethodId} {args : Array Value} {below : List Frame} {meth : Method} {c : Code} {G : Gl} {N : Nat} {h : Hs} {r : Int32 × Hs}  {t : Nat} {x4 : Int32} (C : Cx p s m args meth c cX12_snap RX12 5 G) (hret : meth.sig.returnType = (some .int))  (hf : fX12_snap_b174 N  t h x4 = some r) : V p l e rmX12_snap s m args below meth c G 5 (MQ below (QcG G (some (.inl r.1)) r.2) args s rmX12_snap.cells rmX12_snap.slots (AG G)) h 0 0 174 [some (.inr (some t)), none, none, none, some (.inl x4)] [] := by
  unfold fX12_snap_b174 at hf
  refine r_iload C dX12_snap_174 rfl ?_
  exact r_iretF C dX12_snap_176 hret hf (by decide) (by decide)
noncomputable def fX12_snap_b107_body (N : Nat)  (g107 : Hs → Int32 → Int32 → Int32 → Int32 → Option (Int32 × Hs)) (t : Nat) (h : Hs) (x1 : Int32) (x2 : Int32) (x3 : Int32) (x4 : Int32) : Option (Int32 × Hs) :=
  if x3 ≤ x4 then (
  fX12_snap_b174 N t h x4)
  else (oR 12 2 h (some t)).bind fun o1 =>
  (lA 20 h o1 x2).bind fun v2 =>
  (oR 12 5 h (some t)).bind fun o3 =>
  (lA 20 h o3 x2).bind fun v4 =>
  (rc 12 h (some t)).bind fun a6 =>
  (fX12_isCaught N h a6 v2 v4).bind fun r5 =>
  if r5.1 = 0 then (
  (oR 12 5 r5.2 (some t)).bind fun o7 =>
  (lA 20 r5.2 o7 x2).bind fun v8 =>
  (oR 12 14 r5.2 (some t)).bind fun o9 =>
  (lA 20 r5.2 o9 x1).bind fun v10 =>
  (rc 12 r5.2 (some t)).bind fun a12 =>
  (fX12_other N r5.2 a12 x2 (v8 - v10)).bind fun r11 =>
  if 0 ≤ r11.1 then (
  fX12_snap_b174 N t r11.2 x4)
  else (oR 12 5 r11.2 (some t)).bind fun o13 =>
  (lA 20 r11.2 o13 x2).bind fun v14 =>
  (oR 12 14 r11.2 (some t)).bind fun o15 =>
  (lA 20 r11.2 o15 x1).bind fun v16 =>
  (sA r11.2 o13 x2 (v14 - v16)).bind fun h17 =>
  (some (x4 + 1)).bind fun y18 =>
  g107 h17 x1 x2 x3 y18)
  else fX12_snap_b174 N t r5.2 x4
noncomputable def fX12_snap_b107 (N : Nat)  (t : Nat) (n : Nat) : Hs → Int32 → Int32 → Int32 → Int32 → Option (Int32 × Hs) := lp (fun _ _ _ _ _ => none) (fun g h x1 x2 x3 x4 => fX12_snap_b107_body N  g t h x1 x2 x3 x4) n
set_option maxHeartbeats 4000000 in
set_option maxRecDepth 20000 in
theorem wX12_snap_b107_body {p : Program} {l : Launch} {e : Env} {s : State} {m : MethodId} {args : Array Value} {below : List Frame} {meth : Method} {c : Code} {G : Gl} {N : Nat} {h : Hs} {r : Int32 × Hs}  {g107 : Hs → Int32 → Int32 → Int32 → Int32 → Option (Int32 × Hs)} {t : Nat} {x1 : Int32} {x2 : Int32} {x3 : Int32} {x4 : Int32} (C : Cx p s m args meth c cX12_snap RX12 5 G) (hret : meth.sig.returnType = (some .int))  (hg107 : ∀ (h : Hs) (x1 : Int32) (x2 : Int32) (x3 : Int32) (x4 : Int32), g107 h x1 x2 x3 x4 = some r → V p l e rmX12_snap s m args below meth c G 5 (MQ below (QcG G (some (.inl r.1)) r.2) args s rmX12_snap.cells rmX12_snap.slots (AG G)) h 0 0 107 [some (.inr (some t)), some (.inl x1), some (.inl x2), some (.inl x3), some (.inl x4)] []) (hf : fX12_snap_b107_body N  g107 t h x1 x2 x3 x4 = some r) : V p l e rmX12_snap s m args below meth c G 5 (MQ below (QcG G (some (.inl r.1)) r.2) args s rmX12_snap.cells rmX12_snap.slots (AG G)) h 0 0 107 [some (.inr (some t)), some (.inl x1), some (.inl x2), some (.inl x3), some (.inl x4)] [] := by
  unfold fX12_snap_b107_body at hf
  refine r_iload C dX12_snap_107 rfl ?_
  refine r_iload_n C dX12_snap_109 rfl ?_
  refine r_icmp_ge (tgt := 174) C dX12_snap_110 (by decide) (fun hc => ?_) (fun hc => ?_)
  · have hf := ifT hf hc
    exact V.sub (wX12_snap_b174 C hret hf) (LW_s rfl (LW_n (LW_n (LW_n (LW_s rfl (LW_e))))))
  · have hf := ifF hf hc
    refine r_aload_n C dX12_snap_113 rfl ?_
    refine r_aload_n C dX12_snap_114 rfl ?_
    obtain ⟨o1, eo1, hf⟩ := bS hf
    refine r_getR C dX12_snap_115 fl_X12_7 rfl eo1 ?_
    refine r_iload_n C dX12_snap_118 rfl ?_
    obtain ⟨v2, ev2, hf⟩ := bS hf
    refine r_iald C dX12_snap_119 ev2 ?_
    refine r_aload_n C dX12_snap_120 rfl ?_
    obtain ⟨o3, eo3, hf⟩ := bS hf
    refine r_getR C dX12_snap_121 fl_X12_19 rfl eo3 ?_
    refine r_iload_n C dX12_snap_124 rfl ?_
    obtain ⟨v4, ev4, hf⟩ := bS hf
    refine r_iald C dX12_snap_125 ev4 ?_
    obtain ⟨a6, ea6, hf⟩ := bS hf
    obtain ⟨r5, er5, hf⟩ := bS hf
    refine r_invV1 (As := [.inl v2, .inl v4]) (ci := 12) C dX12_snap_126 mcX12_isCaught wd_1301 wd_1303 wp_44 rfl rfl (by decide) ⟨by decide, by decide⟩ ⟨by decide, by decide⟩ rfl (Nat.le_of_ble_eq_true rfl) ea6 (kX12_isCaught l G er5) ?_
    refine r_if_ne (tgt := 174) C dX12_snap_129 (by decide) (fun hc => ?_) (fun hc => ?_)
    · have hf := ifF hf hc
      exact V.sub (wX12_snap_b174 C hret hf) (LW_s rfl (LW_n (LW_n (LW_n (LW_s rfl (LW_e))))))
    · have hf := ifT hf hc
      refine r_aload_n C dX12_snap_132 rfl ?_
      refine r_iload_n C dX12_snap_133 rfl ?_
      refine r_aload_n C dX12_snap_134 rfl ?_
      obtain ⟨o7, eo7, hf⟩ := bS hf
      refine r_getR C dX12_snap_135 fl_X12_19 rfl eo7 ?_
      refine r_iload_n C dX12_snap_138 rfl ?_
      obtain ⟨v8, ev8, hf⟩ := bS hf
      refine r_iald C dX12_snap_139 ev8 ?_
      refine r_aload_n C dX12_snap_140 rfl ?_
      obtain ⟨o9, eo9, hf⟩ := bS hf
      refine r_getR C dX12_snap_141 fl_X12_40 rfl eo9 ?_
      refine r_iload_n C dX12_snap_144 rfl ?_
      obtain ⟨v10, ev10, hf⟩ := bS hf
      refine r_iald C dX12_snap_145 ev10 ?_
      refine r_isub C dX12_snap_146 ?_
      obtain ⟨a12, ea12, hf⟩ := bS hf
      obtain ⟨r11, er11, hf⟩ := bS hf
      refine r_invV1 (As := [.inl x2, .inl (v8 - v10)]) (ci := 12) C dX12_snap_147 mcX12_other wd_1280 wd_1282 wp_42 rfl rfl (by decide) ⟨by decide, by decide⟩ ⟨by decide, by decide⟩ rfl (Nat.le_of_ble_eq_true rfl) ea12 (kX12_other l G er11) ?_
      refine r_if_ge (tgt := 174) C dX12_snap_150 (by decide) (fun hc => ?_) (fun hc => ?_)
      · have hf := ifT hf hc
        exact V.sub (wX12_snap_b174 C hret hf) (LW_s rfl (LW_n (LW_n (LW_n (LW_s rfl (LW_e))))))
      · have hf := ifF hf hc
        refine r_aload_n C dX12_snap_153 rfl ?_
        obtain ⟨o13, eo13, hf⟩ := bS hf
        refine r_getR C dX12_snap_154 fl_X12_19 rfl eo13 ?_
        refine r_iload_n C dX12_snap_157 rfl ?_
        refine r_dup2 C dX12_snap_158 ?_
        obtain ⟨v14, ev14, hf⟩ := bS hf
        refine r_iald C dX12_snap_159 ev14 ?_
        refine r_aload_n C dX12_snap_160 rfl ?_
        obtain ⟨o15, eo15, hf⟩ := bS hf
        refine r_getR C dX12_snap_161 fl_X12_40 rfl eo15 ?_
        refine r_iload_n C dX12_snap_164 rfl ?_
        obtain ⟨v16, ev16, hf⟩ := bS hf
        refine r_iald C dX12_snap_165 ev16 ?_
        refine r_isub C dX12_snap_166 ?_
        obtain ⟨h17, eh17, hf⟩ := bS hf
        refine r_iast C dX12_snap_167 eh17 ?_
        obtain ⟨y18, ey18, hf⟩ := bS hf
        refine r_iincE (v := 1) C dX12_snap_168 rfl (by decide) (by decide) ey18 ?_
        refine r_goto (tgt := 107) C dX12_snap_171 (by decide) ?_
        exact V.sub (hg107 _ _ _ _ _ hf) (LW_s rfl (LW_s rfl (LW_s rfl (LW_s rfl (LW_s rfl (LW_e))))))
theorem wX12_snap_b107 {p : Program} {l : Launch} {e : Env} {s : State} {m : MethodId} {args : Array Value} {below : List Frame} {meth : Method} {c : Code} {G : Gl} {N : Nat} {r : Int32 × Hs}  {t : Nat} (C : Cx p s m args meth c cX12_snap RX12 5 G) (hret : meth.sig.returnType = (some .int))  : ∀ (n : Nat) (h : Hs) (x1 : Int32) (x2 : Int32) (x3 : Int32) (x4 : Int32), fX12_snap_b107 N  t n h x1 x2 x3 x4 = some r → V p l e rmX12_snap s m args below meth c G 5 (MQ below (QcG G (some (.inl r.1)) r.2) args s rmX12_snap.cells rmX12_snap.slots (AG G)) h 0 0 107 [some (.inr (some t)), some (.inl x1), some (.inl x2), some (.inl x3), some (.inl x4)] [] := by
  intro n
  induction n with
  | zero => intro h x1 x2 x3 x4 hf; exact absurd (show (none : Option (Int32 × Hs)) = some r from hf) (fun q => by cases q)
  | succ n ih => intro h x1 x2 x3 x4 hf; exact wX12_snap_b107_body C hret  ih (show fX12_snap_b107_body N  (fX12_snap_b107 N  t n) t h x1 x2 x3 x4 = some r from hf)
noncomputable def fX12_snap_b85 (N : Nat)  (t : Nat) (h : Hs) (x1 : Int32) (x2 : Int32) (x3 : Int32) : Option (Int32 × Hs) :=
  (oR 12 16 h (some t)).bind fun o1 =>
  (sA h o1 x1 (-1)).bind fun h2 =>
  (oR 12 18 h2 (some t)).bind fun o3 =>
  (sZ h2 o3 x1 1).bind fun h4 =>
  (qZ 12 43 h4 (some t) 0).bind fun h5 =>
  fX12_snap_b107 N t N h5 x1 x2 x3 0
set_option maxHeartbeats 4000000 in
set_option maxRecDepth 20000 in
theorem wX12_snap_b85 {p : Program} {l : Launch} {e : Env} {s : State} {m : MethodId} {args : Array Value} {below : List Frame} {meth : Method} {c : Code} {G : Gl} {N : Nat} {h : Hs} {r : Int32 × Hs}  {t : Nat} {x1 : Int32} {x2 : Int32} {x3 : Int32} (C : Cx p s m args meth c cX12_snap RX12 5 G) (hret : meth.sig.returnType = (some .int))  (hf : fX12_snap_b85 N  t h x1 x2 x3 = some r) : V p l e rmX12_snap s m args below meth c G 5 (MQ below (QcG G (some (.inl r.1)) r.2) args s rmX12_snap.cells rmX12_snap.slots (AG G)) h 0 0 85 [some (.inr (some t)), some (.inl x1), some (.inl x2), some (.inl x3), none] [] := by
  unfold fX12_snap_b85 at hf
  refine r_aload_n C dX12_snap_85 rfl ?_
  obtain ⟨o1, eo1, hf⟩ := bS hf
  refine r_getR C dX12_snap_86 fl_X12_46 rfl eo1 ?_
  refine r_iload_n C dX12_snap_89 rfl ?_
  refine r_iconst (v := -1) C dX12_snap_90 (by decide) ?_
  obtain ⟨h2, eh2, hf⟩ := bS hf
  refine r_iast C dX12_snap_91 eh2 ?_
  refine r_aload_n C dX12_snap_92 rfl ?_
  obtain ⟨o3, eo3, hf⟩ := bS hf
  refine r_getR C dX12_snap_93 fl_X12_52 rfl eo3 ?_
  refine r_iload_n C dX12_snap_96 rfl ?_
  refine r_iconst (v := 1) C dX12_snap_97 (by decide) ?_
  obtain ⟨h4, eh4, hf⟩ := bS hf
  refine r_zast C dX12_snap_98 eh4 ?_
  refine r_aload_n C dX12_snap_99 rfl ?_
  refine r_iconst (v := 0) C dX12_snap_100 (by decide) ?_
  obtain ⟨h5, eh5, hf⟩ := bS hf
  refine r_putZ C dX12_snap_101 fl_X12_162 (Or.inl fn_12_43) rfl eh5 ?_
  refine r_iconst (v := 0) C dX12_snap_104 (by decide) ?_
  refine r_istore C dX12_snap_105 (by decide) ?_
  exact V.sub (wX12_snap_b107 C hret N _ _ _ _ _ hf) (LW_s rfl (LW_s rfl (LW_s rfl (LW_s rfl (LW_s rfl (LW_e))))))
noncomputable def fX12_snap_b73 (N : Nat)  (t : Nat) (h : Hs) (x1 : Int32) (x2 : Int32) (u0 : Int32) : Option (Int32 × Hs) :=
  (oR 12 17 h (some t)).bind fun o1 =>
  (lA 20 h o1 x1).bind fun v2 =>
  if 0 < v2 then (
  fX12_snap_b85 N t h x1 x2 u0)
  else fX12_snap_b85 N t h x1 x2 0
set_option maxHeartbeats 4000000 in
set_option maxRecDepth 20000 in
theorem wX12_snap_b73 {p : Program} {l : Launch} {e : Env} {s : State} {m : MethodId} {args : Array Value} {below : List Frame} {meth : Method} {c : Code} {G : Gl} {N : Nat} {h : Hs} {r : Int32 × Hs}  {t : Nat} {x1 : Int32} {x2 : Int32} {u0 : Int32} (C : Cx p s m args meth c cX12_snap RX12 5 G) (hret : meth.sig.returnType = (some .int))  (hf : fX12_snap_b73 N  t h x1 x2 u0 = some r) : V p l e rmX12_snap s m args below meth c G 5 (MQ below (QcG G (some (.inl r.1)) r.2) args s rmX12_snap.cells rmX12_snap.slots (AG G)) h 0 0 73 [some (.inr (some t)), some (.inl x1), some (.inl x2), none, none] [.inl u0] := by
  unfold fX12_snap_b73 at hf
  refine r_istore_n C dX12_snap_73 (by decide) ?_
  refine r_aload_n C dX12_snap_74 rfl ?_
  obtain ⟨o1, eo1, hf⟩ := bS hf
  refine r_getR C dX12_snap_75 fl_X12_49 rfl eo1 ?_
  refine r_iload_n C dX12_snap_78 rfl ?_
  obtain ⟨v2, ev2, hf⟩ := bS hf
  refine r_iald C dX12_snap_79 ev2 ?_
  refine r_if_gt (tgt := 85) C dX12_snap_80 (by decide) (fun hc => ?_) (fun hc => ?_)
  · have hf := ifT hf hc
    exact V.sub (wX12_snap_b85 C hret hf) (LW_s rfl (LW_s rfl (LW_s rfl (LW_s rfl (LW_n (LW_e))))))
  · have hf := ifF hf hc
    refine r_iconst (v := 0) C dX12_snap_83 (by decide) ?_
    refine r_istore_n C dX12_snap_84 (by decide) ?_
    exact V.sub (wX12_snap_b85 C hret hf) (LW_s rfl (LW_s rfl (LW_s rfl (LW_s rfl (LW_n (LW_e))))))
noncomputable def fX12_snap (N : Nat) (h : Hs) (t : Nat) (p1 : Int32) : Option (Int32 × Hs) :=
  (rc 12 h (some t)).bind fun a2 =>
  (fX12_isRope N h a2 p1).bind fun r1 =>
  if r1.1 = 0 then (
  some ((-1), r1.2))
  else (oR 12 16 r1.2 (some t)).bind fun o3 =>
  (lA 20 r1.2 o3 p1).bind fun v4 =>
  if 0 ≤ v4 then (
  (oR 12 12 r1.2 (some t)).bind fun o5 =>
  (lA 20 r1.2 o5 p1).bind fun v6 =>
  (oR 12 5 r1.2 (some t)).bind fun o7 =>
  (lA 20 r1.2 o7 v6).bind fun v8 =>
  (oR 12 8 r1.2 (some t)).bind fun o9 =>
  (lA 20 r1.2 o9 v6).bind fun v10 =>
  if v10 ≤ v8 then (
  (oR 12 5 r1.2 (some t)).bind fun o11 =>
  (lA 20 r1.2 o11 v6).bind fun v12 =>
  (oR 12 8 r1.2 (some t)).bind fun o13 =>
  (lA 20 r1.2 o13 v6).bind fun v14 =>
  fX12_snap_b73 N t r1.2 p1 v6 (v12 - v14))
  else (oR 12 8 r1.2 (some t)).bind fun o15 =>
  (lA 20 r1.2 o15 v6).bind fun v16 =>
  (oR 12 5 r1.2 (some t)).bind fun o17 =>
  (lA 20 r1.2 o17 v6).bind fun v18 =>
  fX12_snap_b73 N t r1.2 p1 v6 (v16 - v18))
  else some ((-2), r1.2)
set_option maxHeartbeats 4000000 in
set_option maxRecDepth 20000 in
theorem kX12_snap (l : Launch) (G : Gl) {N : Nat} {h : Hs} {t : Nat} {p1 : Int32} {r : Int32 × Hs} (hf : fX12_snap N h t p1 = some r) : CT l G yX12_snap cX12_snap 5 (some .int) rmX12_snap [.inr (some t), .inl p1] h (some (.inl r.1)) r.2 := by
  refine mk_CT (by decide) (Nat.le_of_ble_eq_true rfl) ?_
  intro p e s m args below meth c C hret hin
  unfold fX12_snap at hf
  refine r_aload_n C dX12_snap_0 rfl ?_
  refine r_iload_n C dX12_snap_1 rfl ?_
  obtain ⟨a2, ea2, hf⟩ := bS hf
  obtain ⟨r1, er1, hf⟩ := bS hf
  refine r_invV1 (As := [.inl p1]) (ci := 12) C dX12_snap_2 mcX12_isRope wd_1216 wd_1218 wp_33 rfl rfl (by decide) ⟨by decide, by decide⟩ ⟨by decide, by decide⟩ rfl (Nat.le_of_ble_eq_true rfl) ea2 (kX12_isRope l G er1) ?_
  refine r_if_ne (tgt := 10) C dX12_snap_5 (by decide) (fun hc => ?_) (fun hc => ?_)
  · have hf := ifF hf hc
    refine r_aload_n C dX12_snap_10 rfl ?_
    obtain ⟨o3, eo3, hf⟩ := bS hf
    refine r_getR C dX12_snap_11 fl_X12_46 rfl eo3 ?_
    refine r_iload_n C dX12_snap_14 rfl ?_
    obtain ⟨v4, ev4, hf⟩ := bS hf
    refine r_iald C dX12_snap_15 ev4 ?_
    refine r_if_ge (tgt := 22) C dX12_snap_16 (by decide) (fun hc => ?_) (fun hc => ?_)
    · have hf := ifT hf hc
      refine r_aload_n C dX12_snap_22 rfl ?_
      obtain ⟨o5, eo5, hf⟩ := bS hf
      refine r_getR C dX12_snap_23 fl_X12_34 rfl eo5 ?_
      refine r_iload_n C dX12_snap_26 rfl ?_
      obtain ⟨v6, ev6, hf⟩ := bS hf
      refine r_iald C dX12_snap_27 ev6 ?_
      refine r_istore_n C dX12_snap_28 (by decide) ?_
      refine r_aload_n C dX12_snap_29 rfl ?_
      obtain ⟨o7, eo7, hf⟩ := bS hf
      refine r_getR C dX12_snap_30 fl_X12_19 rfl eo7 ?_
      refine r_iload_n C dX12_snap_33 rfl ?_
      obtain ⟨v8, ev8, hf⟩ := bS hf
      refine r_iald C dX12_snap_34 ev8 ?_
      refine r_aload_n C dX12_snap_35 rfl ?_
      obtain ⟨o9, eo9, hf⟩ := bS hf
      refine r_getR C dX12_snap_36 fl_X12_28 rfl eo9 ?_
      refine r_iload_n C dX12_snap_39 rfl ?_
      obtain ⟨v10, ev10, hf⟩ := bS hf
      refine r_iald C dX12_snap_40 ev10 ?_
      refine r_icmp_ge (tgt := 60) C dX12_snap_41 (by decide) (fun hc => ?_) (fun hc => ?_)
      · have hf := ifT hf hc
        refine r_aload_n C dX12_snap_60 rfl ?_
        obtain ⟨o11, eo11, hf⟩ := bS hf
        refine r_getR C dX12_snap_61 fl_X12_19 rfl eo11 ?_
        refine r_iload_n C dX12_snap_64 rfl ?_
        obtain ⟨v12, ev12, hf⟩ := bS hf
        refine r_iald C dX12_snap_65 ev12 ?_
        refine r_aload_n C dX12_snap_66 rfl ?_
        obtain ⟨o13, eo13, hf⟩ := bS hf
        refine r_getR C dX12_snap_67 fl_X12_28 rfl eo13 ?_
        refine r_iload_n C dX12_snap_70 rfl ?_
        obtain ⟨v14, ev14, hf⟩ := bS hf
        refine r_iald C dX12_snap_71 ev14 ?_
        refine r_isub C dX12_snap_72 ?_
        exact V.sub (wX12_snap_b73 C hret hf) (LW_s rfl (LW_s rfl (LW_s rfl (LW_n (LW_n (LW_e))))))
      · have hf := ifF hf hc
        refine r_aload_n C dX12_snap_44 rfl ?_
        obtain ⟨o15, eo15, hf⟩ := bS hf
        refine r_getR C dX12_snap_45 fl_X12_28 rfl eo15 ?_
        refine r_iload_n C dX12_snap_48 rfl ?_
        obtain ⟨v16, ev16, hf⟩ := bS hf
        refine r_iald C dX12_snap_49 ev16 ?_
        refine r_aload_n C dX12_snap_50 rfl ?_
        obtain ⟨o17, eo17, hf⟩ := bS hf
        refine r_getR C dX12_snap_51 fl_X12_19 rfl eo17 ?_
        refine r_iload_n C dX12_snap_54 rfl ?_
        obtain ⟨v18, ev18, hf⟩ := bS hf
        refine r_iald C dX12_snap_55 ev18 ?_
        refine r_isub C dX12_snap_56 ?_
        refine r_goto (tgt := 73) C dX12_snap_57 (by decide) ?_
        exact V.sub (wX12_snap_b73 C hret hf) (LW_s rfl (LW_s rfl (LW_s rfl (LW_n (LW_n (LW_e))))))
    · have hf := ifF hf hc
      refine r_bipush (v := -2) C dX12_snap_19 (by decide) ?_
      exact r_iretF C dX12_snap_21 hret hf (by decide) (by decide)
  · have hf := ifT hf hc
    refine r_iconst (v := -1) C dX12_snap_8 (by decide) ?_
    exact r_iretF C dX12_snap_9 hret hf (by decide) (by decide)
