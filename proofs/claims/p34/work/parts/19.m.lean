theorem dgX12_on_0 : (decode cX12_on 0 = .ok (.iload_n 1, 1)) ∧ (decode cX12_on 1 = .ok (.iconst 0, 1)) ∧ (decode cX12_on 2 = .ok (.sipush 1599, 3)) ∧ (decode cX12_on 5 = .ok (.invokestatic 149, 3)) ∧ (decode cX12_on 8 = .ok (.ifCond .ne 5, 3)) ∧ True := dkW [(0, .iload_n 1, 1), (1, .iconst 0, 1), (2, .sipush 1599, 3), (5, .invokestatic 149, 3), (8, .ifCond .ne 5, 3)] 0 (by decide +kernel)
theorem dX12_on_0 : decode cX12_on 0 = .ok (.iload_n 1, 1) := dgX12_on_0.1
theorem dX12_on_1 : decode cX12_on 1 = .ok (.iconst 0, 1) := dgX12_on_0.2.1
theorem dX12_on_2 : decode cX12_on 2 = .ok (.sipush 1599, 3) := dgX12_on_0.2.2.1
theorem dX12_on_5 : decode cX12_on 5 = .ok (.invokestatic 149, 3) := dgX12_on_0.2.2.2.1
theorem dX12_on_8 : decode cX12_on 8 = .ok (.ifCond .ne 5, 3) := dgX12_on_0.2.2.2.2.1
theorem dX12_on_11 : decode cX12_on 11 = .ok (.iconst (-1), 1) := by decide +kernel
theorem dgX12_on_12 : (decode cX12_on 12 = .ok (.ireturn, 1)) ∧ (decode cX12_on 13 = .ok (.iconst 0, 1)) ∧ (decode cX12_on 14 = .ok (.istore_n 2, 1)) ∧ (decode cX12_on 15 = .ok (.iload_n 2, 1)) ∧ (decode cX12_on 16 = .ok (.aload_n 0, 1)) ∧ (decode cX12_on 17 = .ok (.getfield 146, 3)) ∧ (decode cX12_on 20 = .ok (.if_icmp .ge 55, 3)) ∧ (decode cX12_on 23 = .ok (.aload_n 0, 1)) ∧ (decode cX12_on 24 = .ok (.getfield 7, 3)) ∧ (decode cX12_on 27 = .ok (.iload_n 2, 1)) ∧ (decode cX12_on 28 = .ok (.iaload, 1)) ∧ (decode cX12_on 29 = .ok (.iload_n 1, 1)) ∧ True := dkW [(12, .ireturn, 1), (13, .iconst 0, 1), (14, .istore_n 2, 1), (15, .iload_n 2, 1), (16, .aload_n 0, 1), (17, .getfield 146, 3), (20, .if_icmp .ge 55, 3), (23, .aload_n 0, 1), (24, .getfield 7, 3), (27, .iload_n 2, 1), (28, .iaload, 1), (29, .iload_n 1, 1)] 12 (by decide +kernel)
theorem dX12_on_12 : decode cX12_on 12 = .ok (.ireturn, 1) := dgX12_on_12.1
theorem dX12_on_13 : decode cX12_on 13 = .ok (.iconst 0, 1) := dgX12_on_12.2.1
theorem dX12_on_14 : decode cX12_on 14 = .ok (.istore_n 2, 1) := dgX12_on_12.2.2.1
theorem dX12_on_15 : decode cX12_on 15 = .ok (.iload_n 2, 1) := dgX12_on_12.2.2.2.1
theorem dX12_on_16 : decode cX12_on 16 = .ok (.aload_n 0, 1) := dgX12_on_12.2.2.2.2.1
theorem dX12_on_17 : decode cX12_on 17 = .ok (.getfield 146, 3) := dgX12_on_12.2.2.2.2.2.1
theorem dX12_on_20 : decode cX12_on 20 = .ok (.if_icmp .ge 55, 3) := dgX12_on_12.2.2.2.2.2.2.1
theorem dX12_on_23 : decode cX12_on 23 = .ok (.aload_n 0, 1) := dgX12_on_12.2.2.2.2.2.2.2.1
theorem dX12_on_24 : decode cX12_on 24 = .ok (.getfield 7, 3) := dgX12_on_12.2.2.2.2.2.2.2.2.1
theorem dX12_on_27 : decode cX12_on 27 = .ok (.iload_n 2, 1) := dgX12_on_12.2.2.2.2.2.2.2.2.2.1
theorem dX12_on_28 : decode cX12_on 28 = .ok (.iaload, 1) := dgX12_on_12.2.2.2.2.2.2.2.2.2.2.1
theorem dX12_on_29 : decode cX12_on 29 = .ok (.iload_n 1, 1) := dgX12_on_12.2.2.2.2.2.2.2.2.2.2.2.1
theorem dgX12_on_30 : (decode cX12_on 30 = .ok (.bipush 100, 2)) ∧ (decode cX12_on 32 = .ok (.idiv, 1)) ∧ (decode cX12_on 33 = .ok (.if_icmp .ne 36, 3)) ∧ (decode cX12_on 36 = .ok (.iload_n 1, 1)) ∧ (decode cX12_on 37 = .ok (.bipush 100, 2)) ∧ (decode cX12_on 39 = .ok (.irem, 1)) ∧ (decode cX12_on 40 = .ok (.aload_n 0, 1)) ∧ (decode cX12_on 41 = .ok (.getfield 19, 3)) ∧ (decode cX12_on 44 = .ok (.iload_n 2, 1)) ∧ (decode cX12_on 45 = .ok (.iaload, 1)) ∧ (decode cX12_on 46 = .ok (.aload_n 0, 1)) ∧ (decode cX12_on 47 = .ok (.getfield 19, 3)) ∧ True := dkW [(30, .bipush 100, 2), (32, .idiv, 1), (33, .if_icmp .ne 36, 3), (36, .iload_n 1, 1), (37, .bipush 100, 2), (39, .irem, 1), (40, .aload_n 0, 1), (41, .getfield 19, 3), (44, .iload_n 2, 1), (45, .iaload, 1), (46, .aload_n 0, 1), (47, .getfield 19, 3)] 30 (by decide +kernel)
theorem dX12_on_30 : decode cX12_on 30 = .ok (.bipush 100, 2) := dgX12_on_30.1
theorem dX12_on_32 : decode cX12_on 32 = .ok (.idiv, 1) := dgX12_on_30.2.1
theorem dX12_on_33 : decode cX12_on 33 = .ok (.if_icmp .ne 36, 3) := dgX12_on_30.2.2.1
theorem dX12_on_36 : decode cX12_on 36 = .ok (.iload_n 1, 1) := dgX12_on_30.2.2.2.1
theorem dX12_on_37 : decode cX12_on 37 = .ok (.bipush 100, 2) := dgX12_on_30.2.2.2.2.1
theorem dX12_on_39 : decode cX12_on 39 = .ok (.irem, 1) := dgX12_on_30.2.2.2.2.2.1
theorem dX12_on_40 : decode cX12_on 40 = .ok (.aload_n 0, 1) := dgX12_on_30.2.2.2.2.2.2.1
theorem dX12_on_41 : decode cX12_on 41 = .ok (.getfield 19, 3) := dgX12_on_30.2.2.2.2.2.2.2.1
theorem dX12_on_44 : decode cX12_on 44 = .ok (.iload_n 2, 1) := dgX12_on_30.2.2.2.2.2.2.2.2.1
theorem dX12_on_45 : decode cX12_on 45 = .ok (.iaload, 1) := dgX12_on_30.2.2.2.2.2.2.2.2.2.1
theorem dX12_on_46 : decode cX12_on 46 = .ok (.aload_n 0, 1) := dgX12_on_30.2.2.2.2.2.2.2.2.2.2.1
theorem dX12_on_47 : decode cX12_on 47 = .ok (.getfield 19, 3) := dgX12_on_30.2.2.2.2.2.2.2.2.2.2.2.1
theorem dgX12_on_50 : (decode cX12_on 50 = .ok (.iload_n 2, 1)) ∧ (decode cX12_on 51 = .ok (.iaload, 1)) ∧ (decode cX12_on 52 = .ok (.aload_n 0, 1)) ∧ (decode cX12_on 53 = .ok (.getfield 13, 3)) ∧ (decode cX12_on 56 = .ok (.iload_n 2, 1)) ∧ (decode cX12_on 57 = .ok (.iaload, 1)) ∧ (decode cX12_on 58 = .ok (.iadd, 1)) ∧ (decode cX12_on 59 = .ok (.iconst 1, 1)) ∧ (decode cX12_on 60 = .ok (.isub, 1)) ∧ (decode cX12_on 61 = .ok (.invokestatic 149, 3)) ∧ (decode cX12_on 64 = .ok (.ifCond .eq 5, 3)) ∧ (decode cX12_on 67 = .ok (.iload_n 2, 1)) ∧ True := dkW [(50, .iload_n 2, 1), (51, .iaload, 1), (52, .aload_n 0, 1), (53, .getfield 13, 3), (56, .iload_n 2, 1), (57, .iaload, 1), (58, .iadd, 1), (59, .iconst 1, 1), (60, .isub, 1), (61, .invokestatic 149, 3), (64, .ifCond .eq 5, 3), (67, .iload_n 2, 1)] 50 (by decide +kernel)
theorem dX12_on_50 : decode cX12_on 50 = .ok (.iload_n 2, 1) := dgX12_on_50.1
theorem dX12_on_51 : decode cX12_on 51 = .ok (.iaload, 1) := dgX12_on_50.2.1
theorem dX12_on_52 : decode cX12_on 52 = .ok (.aload_n 0, 1) := dgX12_on_50.2.2.1
theorem dX12_on_53 : decode cX12_on 53 = .ok (.getfield 13, 3) := dgX12_on_50.2.2.2.1
theorem dX12_on_56 : decode cX12_on 56 = .ok (.iload_n 2, 1) := dgX12_on_50.2.2.2.2.1
theorem dX12_on_57 : decode cX12_on 57 = .ok (.iaload, 1) := dgX12_on_50.2.2.2.2.2.1
theorem dX12_on_58 : decode cX12_on 58 = .ok (.iadd, 1) := dgX12_on_50.2.2.2.2.2.2.1
theorem dX12_on_59 : decode cX12_on 59 = .ok (.iconst 1, 1) := dgX12_on_50.2.2.2.2.2.2.2.1
theorem dX12_on_60 : decode cX12_on 60 = .ok (.isub, 1) := dgX12_on_50.2.2.2.2.2.2.2.2.1
theorem dX12_on_61 : decode cX12_on 61 = .ok (.invokestatic 149, 3) := dgX12_on_50.2.2.2.2.2.2.2.2.2.1
theorem dX12_on_64 : decode cX12_on 64 = .ok (.ifCond .eq 5, 3) := dgX12_on_50.2.2.2.2.2.2.2.2.2.2.1
theorem dX12_on_67 : decode cX12_on 67 = .ok (.iload_n 2, 1) := dgX12_on_50.2.2.2.2.2.2.2.2.2.2.2.1
theorem dgX12_on_68 : (decode cX12_on 68 = .ok (.ireturn, 1)) ∧ (decode cX12_on 69 = .ok (.iinc 2 1, 3)) ∧ (decode cX12_on 72 = .ok (.goto (-57), 3)) ∧ (decode cX12_on 75 = .ok (.bipush (-2), 2)) ∧ (decode cX12_on 77 = .ok (.ireturn, 1)) ∧ True := dkW [(68, .ireturn, 1), (69, .iinc 2 1, 3), (72, .goto (-57), 3), (75, .bipush (-2), 2), (77, .ireturn, 1)] 68 (by decide +kernel)
theorem dX12_on_68 : decode cX12_on 68 = .ok (.ireturn, 1) := dgX12_on_68.1
theorem dX12_on_69 : decode cX12_on 69 = .ok (.iinc 2 1, 3) := dgX12_on_68.2.1
theorem dX12_on_72 : decode cX12_on 72 = .ok (.goto (-57), 3) := dgX12_on_68.2.2.1
theorem dX12_on_75 : decode cX12_on 75 = .ok (.bipush (-2), 2) := dgX12_on_68.2.2.2.1
theorem dX12_on_77 : decode cX12_on 77 = .ok (.ireturn, 1) := dgX12_on_68.2.2.2.2.1
abbrev rmX12_on : Room := { frames := 1, cells := 0, slots := 0, locals := 22 }
noncomputable def fX12_on_b69 (N : Nat) (g15 : Hs → Int32 → Int32 → Option (Int32 × Hs)) (t : Nat) (h : Hs) (x1 : Int32) (x2 : Int32) : Option (Int32 × Hs) :=
  (some (x2 + 1)).bind fun y1 =>
  g15 h x1 y1
set_option maxHeartbeats 4000000 in
set_option maxRecDepth 20000 in
theorem wX12_on_b69 {p : Program} {l : Launch} {e : Env} {s : State} {m : MethodId} {args : Array Value} {below : List Frame} {meth : Method} {c : Code} {G : Gl} {N : Nat} {h : Hs} {r : Int32 × Hs} {g15 : Hs → Int32 → Int32 → Option (Int32 × Hs)} {t : Nat} {x1 : Int32} {x2 : Int32} (C : Cx p s m args meth c cX12_on RX12 3 G) (hret : meth.sig.returnType = (some .int)) (hg15 : ∀ (h : Hs) (x1 : Int32) (x2 : Int32), g15 h x1 x2 = some r → V p l e rmX12_on s m args below meth c G 3 (MQ below (QcG G (some (.inl r.1)) r.2) args s rmX12_on.cells rmX12_on.slots (AG G)) h 0 0 15 [some (.inr (some t)), some (.inl x1), some (.inl x2)] []) (hf : fX12_on_b69 N g15 t h x1 x2 = some r) : V p l e rmX12_on s m args below meth c G 3 (MQ below (QcG G (some (.inl r.1)) r.2) args s rmX12_on.cells rmX12_on.slots (AG G)) h 0 0 69 [some (.inr (some t)), some (.inl x1), some (.inl x2)] [] := by
  unfold fX12_on_b69 at hf
  obtain ⟨y1, ey1, hf⟩ := bS hf
  refine r_iincE (v := 1) C dX12_on_69 rfl (by decide) (by decide) ey1 ?_
  refine r_goto (tgt := 15) C dX12_on_72 (by decide) ?_
  exact V.sub (hg15 _ _ _ hf) (LW_s rfl (LW_s rfl (LW_s rfl (LW_e))))
noncomputable def fX12_on_b15_body (N : Nat)  (g15 : Hs → Int32 → Int32 → Option (Int32 × Hs)) (t : Nat) (h : Hs) (x1 : Int32) (x2 : Int32) : Option (Int32 × Hs) :=
  (oI 12 1 h (some t)).bind fun v1 =>
  if v1 ≤ x2 then (
  some ((-2), h))
  else (oR 12 2 h (some t)).bind fun o2 =>
  (lA 20 h o2 x2).bind fun v3 =>
  if v3 = (x1 / 100) then (
  (oR 12 5 h (some t)).bind fun o4 =>
  (lA 20 h o4 x2).bind fun v5 =>
  (oR 12 5 h (some t)).bind fun o6 =>
  (lA 20 h o6 x2).bind fun v7 =>
  (oR 12 3 h (some t)).bind fun o8 =>
  (lA 20 h o8 x2).bind fun v9 =>
  (fX12_in N h (x1 - x1 / 100 * 100) v5 ((v7 + v9) - 1)).bind fun r10 =>
  if r10.1 = 0 then (
  fX12_on_b69 N g15 t r10.2 x1 x2)
  else some (x2, r10.2))
  else fX12_on_b69 N g15 t h x1 x2
noncomputable def fX12_on_b15 (N : Nat)  (t : Nat) (n : Nat) : Hs → Int32 → Int32 → Option (Int32 × Hs) := lp (fun _ _ _ => none) (fun g h x1 x2 => fX12_on_b15_body N  g t h x1 x2) n
set_option maxHeartbeats 4000000 in
set_option maxRecDepth 20000 in
theorem wX12_on_b15_body {p : Program} {l : Launch} {e : Env} {s : State} {m : MethodId} {args : Array Value} {below : List Frame} {meth : Method} {c : Code} {G : Gl} {N : Nat} {h : Hs} {r : Int32 × Hs}  {g15 : Hs → Int32 → Int32 → Option (Int32 × Hs)} {t : Nat} {x1 : Int32} {x2 : Int32} (C : Cx p s m args meth c cX12_on RX12 3 G) (hret : meth.sig.returnType = (some .int))  (hg15 : ∀ (h : Hs) (x1 : Int32) (x2 : Int32), g15 h x1 x2 = some r → V p l e rmX12_on s m args below meth c G 3 (MQ below (QcG G (some (.inl r.1)) r.2) args s rmX12_on.cells rmX12_on.slots (AG G)) h 0 0 15 [some (.inr (some t)), some (.inl x1), some (.inl x2)] []) (hf : fX12_on_b15_body N  g15 t h x1 x2 = some r) : V p l e rmX12_on s m args below meth c G 3 (MQ below (QcG G (some (.inl r.1)) r.2) args s rmX12_on.cells rmX12_on.slots (AG G)) h 0 0 15 [some (.inr (some t)), some (.inl x1), some (.inl x2)] [] := by
  unfold fX12_on_b15_body at hf
  refine r_iload_n C dX12_on_15 rfl ?_
  refine r_aload_n C dX12_on_16 rfl ?_
  obtain ⟨v1, ev1, hf⟩ := bS hf
  refine r_getI C dX12_on_17 fl_X12_146 rfl ev1 ?_
  refine r_icmp_ge (tgt := 75) C dX12_on_20 (by decide) (fun hc => ?_) (fun hc => ?_)
  · have hf := ifT hf hc
    refine r_bipush (v := -2) C dX12_on_75 (by decide) ?_
    exact r_iretF C dX12_on_77 hret hf (by decide) (by decide)
  · have hf := ifF hf hc
    refine r_aload_n C dX12_on_23 rfl ?_
    obtain ⟨o2, eo2, hf⟩ := bS hf
    refine r_getR C dX12_on_24 fl_X12_7 rfl eo2 ?_
    refine r_iload_n C dX12_on_27 rfl ?_
    obtain ⟨v3, ev3, hf⟩ := bS hf
    refine r_iald C dX12_on_28 ev3 ?_
    refine r_iload_n C dX12_on_29 rfl ?_
    refine r_bipush (v := 100) C dX12_on_30 (by decide) ?_
    refine r_idivK C dX12_on_32 (by decide) ?_
    refine r_icmp_ne (tgt := 69) C dX12_on_33 (by decide) (fun hc => ?_) (fun hc => ?_)
    · have hf := ifF hf hc
      exact V.sub (wX12_on_b69 C hret hg15 hf) (LW_s rfl (LW_s rfl (LW_s rfl (LW_e))))
    · have hf := ifT hf hc
      refine r_iload_n C dX12_on_36 rfl ?_
      refine r_bipush (v := 100) C dX12_on_37 (by decide) ?_
      refine r_iremK C dX12_on_39 (by decide) ?_
      refine r_aload_n C dX12_on_40 rfl ?_
      obtain ⟨o4, eo4, hf⟩ := bS hf
      refine r_getR C dX12_on_41 fl_X12_19 rfl eo4 ?_
      refine r_iload_n C dX12_on_44 rfl ?_
      obtain ⟨v5, ev5, hf⟩ := bS hf
      refine r_iald C dX12_on_45 ev5 ?_
      refine r_aload_n C dX12_on_46 rfl ?_
      obtain ⟨o6, eo6, hf⟩ := bS hf
      refine r_getR C dX12_on_47 fl_X12_19 rfl eo6 ?_
      refine r_iload_n C dX12_on_50 rfl ?_
      obtain ⟨v7, ev7, hf⟩ := bS hf
      refine r_iald C dX12_on_51 ev7 ?_
      refine r_aload_n C dX12_on_52 rfl ?_
      obtain ⟨o8, eo8, hf⟩ := bS hf
      refine r_getR C dX12_on_53 fl_X12_13 rfl eo8 ?_
      refine r_iload_n C dX12_on_56 rfl ?_
      obtain ⟨v9, ev9, hf⟩ := bS hf
      refine r_iald C dX12_on_57 ev9 ?_
      refine r_iadd C dX12_on_58 ?_
      refine r_iconst (v := 1) C dX12_on_59 (by decide) ?_
      refine r_isub C dX12_on_60 ?_
      obtain ⟨r10, er10, hf⟩ := bS hf
      refine r_invS1 (As := [.inl (x1 - x1 / 100 * 100), .inl v5, .inl ((v7 + v9) - 1)]) C dX12_on_61 mcX12_in wd_1185 wd_1186 ⟨by decide, by decide⟩ ⟨by decide, by decide⟩ rfl (Nat.le_of_ble_eq_true rfl) (kX12_in l G er10) ?_
      refine r_if_eq (tgt := 69) C dX12_on_64 (by decide) (fun hc => ?_) (fun hc => ?_)
      · have hf := ifT hf hc
        exact V.sub (wX12_on_b69 C hret hg15 hf) (LW_s rfl (LW_s rfl (LW_s rfl (LW_e))))
      · have hf := ifF hf hc
        refine r_iload_n C dX12_on_67 rfl ?_
        exact r_iretF C dX12_on_68 hret hf (by decide) (by decide)
theorem wX12_on_b15 {p : Program} {l : Launch} {e : Env} {s : State} {m : MethodId} {args : Array Value} {below : List Frame} {meth : Method} {c : Code} {G : Gl} {N : Nat} {r : Int32 × Hs}  {t : Nat} (C : Cx p s m args meth c cX12_on RX12 3 G) (hret : meth.sig.returnType = (some .int))  : ∀ (n : Nat) (h : Hs) (x1 : Int32) (x2 : Int32), fX12_on_b15 N  t n h x1 x2 = some r → V p l e rmX12_on s m args below meth c G 3 (MQ below (QcG G (some (.inl r.1)) r.2) args s rmX12_on.cells rmX12_on.slots (AG G)) h 0 0 15 [some (.inr (some t)), some (.inl x1), some (.inl x2)] [] := by
  intro n
  induction n with
  | zero => intro h x1 x2 hf; exact absurd (show (none : Option (Int32 × Hs)) = some r from hf) (fun q => by cases q)
  | succ n ih => intro h x1 x2 hf; exact wX12_on_b15_body C hret  ih (show fX12_on_b15_body N  (fX12_on_b15 N  t n) t h x1 x2 = some r from hf)
noncomputable def fX12_on (N : Nat) (h : Hs) (t : Nat) (p1 : Int32) : Option (Int32 × Hs) :=
  (fX12_in N h p1 0 1599).bind fun r1 =>
  if r1.1 = 0 then (
  some ((-1), r1.2))
  else fX12_on_b15 N t N r1.2 p1 0
set_option maxHeartbeats 4000000 in
set_option maxRecDepth 20000 in
theorem kX12_on (l : Launch) (G : Gl) {N : Nat} {h : Hs} {t : Nat} {p1 : Int32} {r : Int32 × Hs} (hf : fX12_on N h t p1 = some r) : CT l G yX12_on cX12_on 3 (some .int) rmX12_on [.inr (some t), .inl p1] h (some (.inl r.1)) r.2 := by
  refine mk_CT (by decide) (Nat.le_of_ble_eq_true rfl) ?_
  intro p e s m args below meth c C hret hin
  unfold fX12_on at hf
  refine r_iload_n C dX12_on_0 rfl ?_
  refine r_iconst (v := 0) C dX12_on_1 (by decide) ?_
  refine r_sipush (v := 1599) C dX12_on_2 (by decide) ?_
  obtain ⟨r1, er1, hf⟩ := bS hf
  refine r_invS1 (As := [.inl p1, .inl 0, .inl 1599]) C dX12_on_5 mcX12_in wd_1185 wd_1186 ⟨by decide, by decide⟩ ⟨by decide, by decide⟩ rfl (Nat.le_of_ble_eq_true rfl) (kX12_in l G er1) ?_
  refine r_if_ne (tgt := 13) C dX12_on_8 (by decide) (fun hc => ?_) (fun hc => ?_)
  · have hf := ifF hf hc
    refine r_iconst (v := 0) C dX12_on_13 (by decide) ?_
    refine r_istore_n C dX12_on_14 (by decide) ?_
    exact V.sub (wX12_on_b15 C hret N _ _ _ hf) (LW_s rfl (LW_s rfl (LW_s rfl (LW_e))))
  · have hf := ifT hf hc
    refine r_iconst (v := -1) C dX12_on_11 (by decide) ?_
    exact r_iretF C dX12_on_12 hret hf (by decide) (by decide)

theorem dgX12_drum_0 : (decode cX12_drum 0 = .ok (.iload_n 1, 1)) ∧ (decode cX12_drum 1 = .ok (.iconst 1, 1)) ∧ (decode cX12_drum 2 = .ok (.bipush 20, 2)) ∧ (decode cX12_drum 4 = .ok (.invokestatic 149, 3)) ∧ (decode cX12_drum 7 = .ok (.ifCond .ne 5, 3)) ∧ True := dkW [(0, .iload_n 1, 1), (1, .iconst 1, 1), (2, .bipush 20, 2), (4, .invokestatic 149, 3), (7, .ifCond .ne 5, 3)] 0 (by decide +kernel)
theorem dX12_drum_0 : decode cX12_drum 0 = .ok (.iload_n 1, 1) := dgX12_drum_0.1
theorem dX12_drum_1 : decode cX12_drum 1 = .ok (.iconst 1, 1) := dgX12_drum_0.2.1
theorem dX12_drum_2 : decode cX12_drum 2 = .ok (.bipush 20, 2) := dgX12_drum_0.2.2.1
theorem dX12_drum_4 : decode cX12_drum 4 = .ok (.invokestatic 149, 3) := dgX12_drum_0.2.2.2.1
theorem dX12_drum_7 : decode cX12_drum 7 = .ok (.ifCond .ne 5, 3) := dgX12_drum_0.2.2.2.2.1
theorem dX12_drum_10 : decode cX12_drum 10 = .ok (.iconst (-1), 1) := by decide +kernel
theorem dgX12_drum_11 : (decode cX12_drum 11 = .ok (.ireturn, 1)) ∧ (decode cX12_drum 12 = .ok (.aload_n 0, 1)) ∧ (decode cX12_drum 13 = .ok (.getfield 156, 3)) ∧ (decode cX12_drum 16 = .ok (.bipush 20, 2)) ∧ (decode cX12_drum 18 = .ok (.if_icmp .ne 6, 3)) ∧ (decode cX12_drum 21 = .ok (.bipush (-3), 2)) ∧ (decode cX12_drum 23 = .ok (.ireturn, 1)) ∧ (decode cX12_drum 24 = .ok (.aload_n 0, 1)) ∧ (decode cX12_drum 25 = .ok (.getfield 31, 3)) ∧ (decode cX12_drum 28 = .ok (.aload_n 0, 1)) ∧ (decode cX12_drum 29 = .ok (.getfield 156, 3)) ∧ (decode cX12_drum 32 = .ok (.iload_n 1, 1)) ∧ True := dkW [(11, .ireturn, 1), (12, .aload_n 0, 1), (13, .getfield 156, 3), (16, .bipush 20, 2), (18, .if_icmp .ne 6, 3), (21, .bipush (-3), 2), (23, .ireturn, 1), (24, .aload_n 0, 1), (25, .getfield 31, 3), (28, .aload_n 0, 1), (29, .getfield 156, 3), (32, .iload_n 1, 1)] 11 (by decide +kernel)
theorem dX12_drum_11 : decode cX12_drum 11 = .ok (.ireturn, 1) := dgX12_drum_11.1
theorem dX12_drum_12 : decode cX12_drum 12 = .ok (.aload_n 0, 1) := dgX12_drum_11.2.1
theorem dX12_drum_13 : decode cX12_drum 13 = .ok (.getfield 156, 3) := dgX12_drum_11.2.2.1
theorem dX12_drum_16 : decode cX12_drum 16 = .ok (.bipush 20, 2) := dgX12_drum_11.2.2.2.1
theorem dX12_drum_18 : decode cX12_drum 18 = .ok (.if_icmp .ne 6, 3) := dgX12_drum_11.2.2.2.2.1
theorem dX12_drum_21 : decode cX12_drum 21 = .ok (.bipush (-3), 2) := dgX12_drum_11.2.2.2.2.2.1
theorem dX12_drum_23 : decode cX12_drum 23 = .ok (.ireturn, 1) := dgX12_drum_11.2.2.2.2.2.2.1
theorem dX12_drum_24 : decode cX12_drum 24 = .ok (.aload_n 0, 1) := dgX12_drum_11.2.2.2.2.2.2.2.1
theorem dX12_drum_25 : decode cX12_drum 25 = .ok (.getfield 31, 3) := dgX12_drum_11.2.2.2.2.2.2.2.2.1
theorem dX12_drum_28 : decode cX12_drum 28 = .ok (.aload_n 0, 1) := dgX12_drum_11.2.2.2.2.2.2.2.2.2.1
theorem dX12_drum_29 : decode cX12_drum 29 = .ok (.getfield 156, 3) := dgX12_drum_11.2.2.2.2.2.2.2.2.2.2.1
theorem dX12_drum_32 : decode cX12_drum 32 = .ok (.iload_n 1, 1) := dgX12_drum_11.2.2.2.2.2.2.2.2.2.2.2.1
theorem dgX12_drum_33 : (decode cX12_drum 33 = .ok (.iastore, 1)) ∧ (decode cX12_drum 34 = .ok (.aload_n 0, 1)) ∧ (decode cX12_drum 35 = .ok (.dup, 1)) ∧ (decode cX12_drum 36 = .ok (.getfield 156, 3)) ∧ (decode cX12_drum 39 = .ok (.iconst 1, 1)) ∧ (decode cX12_drum 40 = .ok (.iadd, 1)) ∧ (decode cX12_drum 41 = .ok (.putfield 156, 3)) ∧ (decode cX12_drum 44 = .ok (.aload_n 0, 1)) ∧ (decode cX12_drum 45 = .ok (.iconst 0, 1)) ∧ (decode cX12_drum 46 = .ok (.putfield 162, 3)) ∧ (decode cX12_drum 49 = .ok (.aload_n 0, 1)) ∧ (decode cX12_drum 50 = .ok (.getfield 156, 3)) ∧ True := dkW [(33, .iastore, 1), (34, .aload_n 0, 1), (35, .dup, 1), (36, .getfield 156, 3), (39, .iconst 1, 1), (40, .iadd, 1), (41, .putfield 156, 3), (44, .aload_n 0, 1), (45, .iconst 0, 1), (46, .putfield 162, 3), (49, .aload_n 0, 1), (50, .getfield 156, 3)] 33 (by decide +kernel)
theorem dX12_drum_33 : decode cX12_drum 33 = .ok (.iastore, 1) := dgX12_drum_33.1
theorem dX12_drum_34 : decode cX12_drum 34 = .ok (.aload_n 0, 1) := dgX12_drum_33.2.1
theorem dX12_drum_35 : decode cX12_drum 35 = .ok (.dup, 1) := dgX12_drum_33.2.2.1
theorem dX12_drum_36 : decode cX12_drum 36 = .ok (.getfield 156, 3) := dgX12_drum_33.2.2.2.1
theorem dX12_drum_39 : decode cX12_drum 39 = .ok (.iconst 1, 1) := dgX12_drum_33.2.2.2.2.1
theorem dX12_drum_40 : decode cX12_drum 40 = .ok (.iadd, 1) := dgX12_drum_33.2.2.2.2.2.1
theorem dX12_drum_41 : decode cX12_drum 41 = .ok (.putfield 156, 3) := dgX12_drum_33.2.2.2.2.2.2.1
theorem dX12_drum_44 : decode cX12_drum 44 = .ok (.aload_n 0, 1) := dgX12_drum_33.2.2.2.2.2.2.2.1
theorem dX12_drum_45 : decode cX12_drum 45 = .ok (.iconst 0, 1) := dgX12_drum_33.2.2.2.2.2.2.2.2.1
theorem dX12_drum_46 : decode cX12_drum 46 = .ok (.putfield 162, 3) := dgX12_drum_33.2.2.2.2.2.2.2.2.2.1
theorem dX12_drum_49 : decode cX12_drum 49 = .ok (.aload_n 0, 1) := dgX12_drum_33.2.2.2.2.2.2.2.2.2.2.1
theorem dX12_drum_50 : decode cX12_drum 50 = .ok (.getfield 156, 3) := dgX12_drum_33.2.2.2.2.2.2.2.2.2.2.2.1
theorem dgX12_drum_53 : (decode cX12_drum 53 = .ok (.iconst 1, 1)) ∧ (decode cX12_drum 54 = .ok (.isub, 1)) ∧ (decode cX12_drum 55 = .ok (.ireturn, 1)) ∧ True := dkW [(53, .iconst 1, 1), (54, .isub, 1), (55, .ireturn, 1)] 53 (by decide +kernel)
theorem dX12_drum_53 : decode cX12_drum 53 = .ok (.iconst 1, 1) := dgX12_drum_53.1
theorem dX12_drum_54 : decode cX12_drum 54 = .ok (.isub, 1) := dgX12_drum_53.2.1
theorem dX12_drum_55 : decode cX12_drum 55 = .ok (.ireturn, 1) := dgX12_drum_53.2.2.1
abbrev rmX12_drum : Room := { frames := 1, cells := 0, slots := 0, locals := 22 }
noncomputable def fX12_drum (N : Nat) (h : Hs) (t : Nat) (p1 : Int32) : Option (Int32 × Hs) :=
  (fX12_in N h p1 1 20).bind fun r1 =>
  if r1.1 = 0 then (
  some ((-1), r1.2))
  else (oI 12 9 r1.2 (some t)).bind fun v2 =>
  if v2 = 20 then (
  some ((-3), r1.2))
  else (oR 12 10 r1.2 (some t)).bind fun o3 =>
  (oI 12 9 r1.2 (some t)).bind fun v4 =>
  (sA r1.2 o3 v4 p1).bind fun h5 =>
  (oI 12 9 h5 (some t)).bind fun v6 =>
  (qI 12 9 h5 (some t) (v6 + 1)).bind fun h7 =>
  (qZ 12 43 h7 (some t) 0).bind fun h8 =>
  (oI 12 9 h8 (some t)).bind fun v9 =>
  some (v9 - 1, h8)
set_option maxHeartbeats 4000000 in
set_option maxRecDepth 20000 in
theorem kX12_drum (l : Launch) (G : Gl) {N : Nat} {h : Hs} {t : Nat} {p1 : Int32} {r : Int32 × Hs} (hf : fX12_drum N h t p1 = some r) : CT l G yX12_drum cX12_drum 2 (some .int) rmX12_drum [.inr (some t), .inl p1] h (some (.inl r.1)) r.2 := by
  refine mk_CT (by decide) (Nat.le_of_ble_eq_true rfl) ?_
  intro p e s m args below meth c C hret hin
  unfold fX12_drum at hf
  refine r_iload_n C dX12_drum_0 rfl ?_
  refine r_iconst (v := 1) C dX12_drum_1 (by decide) ?_
  refine r_bipush (v := 20) C dX12_drum_2 (by decide) ?_
  obtain ⟨r1, er1, hf⟩ := bS hf
  refine r_invS1 (As := [.inl p1, .inl 1, .inl 20]) C dX12_drum_4 mcX12_in wd_1185 wd_1186 ⟨by decide, by decide⟩ ⟨by decide, by decide⟩ rfl (Nat.le_of_ble_eq_true rfl) (kX12_in l G er1) ?_
  refine r_if_ne (tgt := 12) C dX12_drum_7 (by decide) (fun hc => ?_) (fun hc => ?_)
  · have hf := ifF hf hc
    refine r_aload_n C dX12_drum_12 rfl ?_
    obtain ⟨v2, ev2, hf⟩ := bS hf
    refine r_getI C dX12_drum_13 fl_X12_156 rfl ev2 ?_
    refine r_bipush (v := 20) C dX12_drum_16 (by decide) ?_
    refine r_icmp_ne (tgt := 24) C dX12_drum_18 (by decide) (fun hc => ?_) (fun hc => ?_)
    · have hf := ifF hf hc
      refine r_aload_n C dX12_drum_24 rfl ?_
      obtain ⟨o3, eo3, hf⟩ := bS hf
      refine r_getR C dX12_drum_25 fl_X12_31 rfl eo3 ?_
      refine r_aload_n C dX12_drum_28 rfl ?_
      obtain ⟨v4, ev4, hf⟩ := bS hf
      refine r_getI C dX12_drum_29 fl_X12_156 rfl ev4 ?_
      refine r_iload_n C dX12_drum_32 rfl ?_
      obtain ⟨h5, eh5, hf⟩ := bS hf
      refine r_iast C dX12_drum_33 eh5 ?_
      refine r_aload_n C dX12_drum_34 rfl ?_
      refine r_dup C dX12_drum_35 ?_
      obtain ⟨v6, ev6, hf⟩ := bS hf
      refine r_getI C dX12_drum_36 fl_X12_156 rfl ev6 ?_
      refine r_iconst (v := 1) C dX12_drum_39 (by decide) ?_
      refine r_iadd C dX12_drum_40 ?_
      obtain ⟨h7, eh7, hf⟩ := bS hf
      refine r_putI C dX12_drum_41 fl_X12_156 (Or.inl fn_12_9) rfl eh7 ?_
      refine r_aload_n C dX12_drum_44 rfl ?_
      refine r_iconst (v := 0) C dX12_drum_45 (by decide) ?_
      obtain ⟨h8, eh8, hf⟩ := bS hf
      refine r_putZ C dX12_drum_46 fl_X12_162 (Or.inl fn_12_43) rfl eh8 ?_
      refine r_aload_n C dX12_drum_49 rfl ?_
      obtain ⟨v9, ev9, hf⟩ := bS hf
      refine r_getI C dX12_drum_50 fl_X12_156 rfl ev9 ?_
      refine r_iconst (v := 1) C dX12_drum_53 (by decide) ?_
      refine r_isub C dX12_drum_54 ?_
      exact r_iretF C dX12_drum_55 hret hf (by decide) (by decide)
    · have hf := ifT hf hc
      refine r_bipush (v := -3) C dX12_drum_21 (by decide) ?_
      exact r_iretF C dX12_drum_23 hret hf (by decide) (by decide)
  · have hf := ifT hf hc
    refine r_iconst (v := -1) C dX12_drum_10 (by decide) ?_
    exact r_iretF C dX12_drum_11 hret hf (by decide) (by decide)

theorem dgX12_rope_0 : (decode cX12_rope 0 = .ok (.aload_n 0, 1)) ∧ (decode cX12_rope 1 = .ok (.iload_n 1, 1)) ∧ (decode cX12_rope 2 = .ok (.invokevirtual 166, 3)) ∧ (decode cX12_rope 5 = .ok (.ifCond .eq 42, 3)) ∧ (decode cX12_rope 8 = .ok (.iload_n 2, 1)) ∧ (decode cX12_rope 9 = .ok (.bipush 10, 2)) ∧ (decode cX12_rope 11 = .ok (.idiv, 1)) ∧ (decode cX12_rope 12 = .ok (.iconst 1, 1)) ∧ (decode cX12_rope 13 = .ok (.iconst 5, 1)) ∧ (decode cX12_rope 14 = .ok (.invokestatic 149, 3)) ∧ (decode cX12_rope 17 = .ok (.ifCond .eq 30, 3)) ∧ (decode cX12_rope 20 = .ok (.iload_n 2, 1)) ∧ True := dkW [(0, .aload_n 0, 1), (1, .iload_n 1, 1), (2, .invokevirtual 166, 3), (5, .ifCond .eq 42, 3), (8, .iload_n 2, 1), (9, .bipush 10, 2), (11, .idiv, 1), (12, .iconst 1, 1), (13, .iconst 5, 1), (14, .invokestatic 149, 3), (17, .ifCond .eq 30, 3), (20, .iload_n 2, 1)] 0 (by decide +kernel)
theorem dX12_rope_0 : decode cX12_rope 0 = .ok (.aload_n 0, 1) := dgX12_rope_0.1
theorem dX12_rope_1 : decode cX12_rope 1 = .ok (.iload_n 1, 1) := dgX12_rope_0.2.1
theorem dX12_rope_2 : decode cX12_rope 2 = .ok (.invokevirtual 166, 3) := dgX12_rope_0.2.2.1
theorem dX12_rope_5 : decode cX12_rope 5 = .ok (.ifCond .eq 42, 3) := dgX12_rope_0.2.2.2.1
theorem dX12_rope_8 : decode cX12_rope 8 = .ok (.iload_n 2, 1) := dgX12_rope_0.2.2.2.2.1
theorem dX12_rope_9 : decode cX12_rope 9 = .ok (.bipush 10, 2) := dgX12_rope_0.2.2.2.2.2.1
theorem dX12_rope_11 : decode cX12_rope 11 = .ok (.idiv, 1) := dgX12_rope_0.2.2.2.2.2.2.1
theorem dX12_rope_12 : decode cX12_rope 12 = .ok (.iconst 1, 1) := dgX12_rope_0.2.2.2.2.2.2.2.1
theorem dX12_rope_13 : decode cX12_rope 13 = .ok (.iconst 5, 1) := dgX12_rope_0.2.2.2.2.2.2.2.2.1
theorem dX12_rope_14 : decode cX12_rope 14 = .ok (.invokestatic 149, 3) := dgX12_rope_0.2.2.2.2.2.2.2.2.2.1
theorem dX12_rope_17 : decode cX12_rope 17 = .ok (.ifCond .eq 30, 3) := dgX12_rope_0.2.2.2.2.2.2.2.2.2.2.1
theorem dX12_rope_20 : decode cX12_rope 20 = .ok (.iload_n 2, 1) := dgX12_rope_0.2.2.2.2.2.2.2.2.2.2.2.1
theorem dgX12_rope_21 : (decode cX12_rope 21 = .ok (.ifCond .lt 26, 3)) ∧ (decode cX12_rope 24 = .ok (.iload_n 2, 1)) ∧ (decode cX12_rope 25 = .ok (.bipush 10, 2)) ∧ (decode cX12_rope 27 = .ok (.irem, 1)) ∧ (decode cX12_rope 28 = .ok (.iconst 1, 1)) ∧ (decode cX12_rope 29 = .ok (.iconst 2, 1)) ∧ (decode cX12_rope 30 = .ok (.invokestatic 149, 3)) ∧ (decode cX12_rope 33 = .ok (.ifCond .eq 14, 3)) ∧ (decode cX12_rope 36 = .ok (.iload_n 3, 1)) ∧ (decode cX12_rope 37 = .ok (.iconst 1, 1)) ∧ (decode cX12_rope 38 = .ok (.sipush 9999, 3)) ∧ (decode cX12_rope 41 = .ok (.invokestatic 149, 3)) ∧ True := dkW [(21, .ifCond .lt 26, 3), (24, .iload_n 2, 1), (25, .bipush 10, 2), (27, .irem, 1), (28, .iconst 1, 1), (29, .iconst 2, 1), (30, .invokestatic 149, 3), (33, .ifCond .eq 14, 3), (36, .iload_n 3, 1), (37, .iconst 1, 1), (38, .sipush 9999, 3), (41, .invokestatic 149, 3)] 21 (by decide +kernel)
theorem dX12_rope_21 : decode cX12_rope 21 = .ok (.ifCond .lt 26, 3) := dgX12_rope_21.1
theorem dX12_rope_24 : decode cX12_rope 24 = .ok (.iload_n 2, 1) := dgX12_rope_21.2.1
theorem dX12_rope_25 : decode cX12_rope 25 = .ok (.bipush 10, 2) := dgX12_rope_21.2.2.1
theorem dX12_rope_27 : decode cX12_rope 27 = .ok (.irem, 1) := dgX12_rope_21.2.2.2.1
theorem dX12_rope_28 : decode cX12_rope 28 = .ok (.iconst 1, 1) := dgX12_rope_21.2.2.2.2.1
theorem dX12_rope_29 : decode cX12_rope 29 = .ok (.iconst 2, 1) := dgX12_rope_21.2.2.2.2.2.1
theorem dX12_rope_30 : decode cX12_rope 30 = .ok (.invokestatic 149, 3) := dgX12_rope_21.2.2.2.2.2.2.1
theorem dX12_rope_33 : decode cX12_rope 33 = .ok (.ifCond .eq 14, 3) := dgX12_rope_21.2.2.2.2.2.2.2.1
theorem dX12_rope_36 : decode cX12_rope 36 = .ok (.iload_n 3, 1) := dgX12_rope_21.2.2.2.2.2.2.2.2.1
theorem dX12_rope_37 : decode cX12_rope 37 = .ok (.iconst 1, 1) := dgX12_rope_21.2.2.2.2.2.2.2.2.2.1
theorem dX12_rope_38 : decode cX12_rope 38 = .ok (.sipush 9999, 3) := dgX12_rope_21.2.2.2.2.2.2.2.2.2.2.1
theorem dX12_rope_41 : decode cX12_rope 41 = .ok (.invokestatic 149, 3) := dgX12_rope_21.2.2.2.2.2.2.2.2.2.2.2.1
theorem dgX12_rope_44 : (decode cX12_rope 44 = .ok (.ifCond .ne 5, 3)) ∧ True := dkW [(44, .ifCond .ne 5, 3)] 44 (by decide +kernel)
theorem dX12_rope_44 : decode cX12_rope 44 = .ok (.ifCond .ne 5, 3) := dgX12_rope_44.1
theorem dX12_rope_47 : decode cX12_rope 47 = .ok (.iconst (-1), 1) := by decide +kernel
theorem dgX12_rope_48 : (decode cX12_rope 48 = .ok (.ireturn, 1)) ∧ (decode cX12_rope 49 = .ok (.aload_n 0, 1)) ∧ (decode cX12_rope 50 = .ok (.getfield 153, 3)) ∧ (decode cX12_rope 53 = .ok (.bipush 40, 2)) ∧ (decode cX12_rope 55 = .ok (.if_icmp .ne 6, 3)) ∧ (decode cX12_rope 58 = .ok (.bipush (-3), 2)) ∧ (decode cX12_rope 60 = .ok (.ireturn, 1)) ∧ (decode cX12_rope 61 = .ok (.aload_n 0, 1)) ∧ (decode cX12_rope 62 = .ok (.getfield 34, 3)) ∧ (decode cX12_rope 65 = .ok (.aload_n 0, 1)) ∧ (decode cX12_rope 66 = .ok (.getfield 153, 3)) ∧ (decode cX12_rope 69 = .ok (.iload_n 1, 1)) ∧ True := dkW [(48, .ireturn, 1), (49, .aload_n 0, 1), (50, .getfield 153, 3), (53, .bipush 40, 2), (55, .if_icmp .ne 6, 3), (58, .bipush (-3), 2), (60, .ireturn, 1), (61, .aload_n 0, 1), (62, .getfield 34, 3), (65, .aload_n 0, 1), (66, .getfield 153, 3), (69, .iload_n 1, 1)] 48 (by decide +kernel)
theorem dX12_rope_48 : decode cX12_rope 48 = .ok (.ireturn, 1) := dgX12_rope_48.1
theorem dX12_rope_49 : decode cX12_rope 49 = .ok (.aload_n 0, 1) := dgX12_rope_48.2.1
theorem dX12_rope_50 : decode cX12_rope 50 = .ok (.getfield 153, 3) := dgX12_rope_48.2.2.1
theorem dX12_rope_53 : decode cX12_rope 53 = .ok (.bipush 40, 2) := dgX12_rope_48.2.2.2.1
theorem dX12_rope_55 : decode cX12_rope 55 = .ok (.if_icmp .ne 6, 3) := dgX12_rope_48.2.2.2.2.1
theorem dX12_rope_58 : decode cX12_rope 58 = .ok (.bipush (-3), 2) := dgX12_rope_48.2.2.2.2.2.1
theorem dX12_rope_60 : decode cX12_rope 60 = .ok (.ireturn, 1) := dgX12_rope_48.2.2.2.2.2.2.1
theorem dX12_rope_61 : decode cX12_rope 61 = .ok (.aload_n 0, 1) := dgX12_rope_48.2.2.2.2.2.2.2.1
theorem dX12_rope_62 : decode cX12_rope 62 = .ok (.getfield 34, 3) := dgX12_rope_48.2.2.2.2.2.2.2.2.1
theorem dX12_rope_65 : decode cX12_rope 65 = .ok (.aload_n 0, 1) := dgX12_rope_48.2.2.2.2.2.2.2.2.2.1
theorem dX12_rope_66 : decode cX12_rope 66 = .ok (.getfield 153, 3) := dgX12_rope_48.2.2.2.2.2.2.2.2.2.2.1
theorem dX12_rope_69 : decode cX12_rope 69 = .ok (.iload_n 1, 1) := dgX12_rope_48.2.2.2.2.2.2.2.2.2.2.2.1
theorem dgX12_rope_70 : (decode cX12_rope 70 = .ok (.iastore, 1)) ∧ (decode cX12_rope 71 = .ok (.aload_n 0, 1)) ∧ (decode cX12_rope 72 = .ok (.getfield 37, 3)) ∧ (decode cX12_rope 75 = .ok (.aload_n 0, 1)) ∧ (decode cX12_rope 76 = .ok (.getfield 153, 3)) ∧ (decode cX12_rope 79 = .ok (.iload_n 2, 1)) ∧ (decode cX12_rope 80 = .ok (.bipush 10, 2)) ∧ (decode cX12_rope 82 = .ok (.idiv, 1)) ∧ (decode cX12_rope 83 = .ok (.iastore, 1)) ∧ (decode cX12_rope 84 = .ok (.aload_n 0, 1)) ∧ (decode cX12_rope 85 = .ok (.getfield 40, 3)) ∧ (decode cX12_rope 88 = .ok (.aload_n 0, 1)) ∧ True := dkW [(70, .iastore, 1), (71, .aload_n 0, 1), (72, .getfield 37, 3), (75, .aload_n 0, 1), (76, .getfield 153, 3), (79, .iload_n 2, 1), (80, .bipush 10, 2), (82, .idiv, 1), (83, .iastore, 1), (84, .aload_n 0, 1), (85, .getfield 40, 3), (88, .aload_n 0, 1)] 70 (by decide +kernel)
theorem dX12_rope_70 : decode cX12_rope 70 = .ok (.iastore, 1) := dgX12_rope_70.1
theorem dX12_rope_71 : decode cX12_rope 71 = .ok (.aload_n 0, 1) := dgX12_rope_70.2.1
theorem dX12_rope_72 : decode cX12_rope 72 = .ok (.getfield 37, 3) := dgX12_rope_70.2.2.1
theorem dX12_rope_75 : decode cX12_rope 75 = .ok (.aload_n 0, 1) := dgX12_rope_70.2.2.2.1
theorem dX12_rope_76 : decode cX12_rope 76 = .ok (.getfield 153, 3) := dgX12_rope_70.2.2.2.2.1
theorem dX12_rope_79 : decode cX12_rope 79 = .ok (.iload_n 2, 1) := dgX12_rope_70.2.2.2.2.2.1
theorem dX12_rope_80 : decode cX12_rope 80 = .ok (.bipush 10, 2) := dgX12_rope_70.2.2.2.2.2.2.1
theorem dX12_rope_82 : decode cX12_rope 82 = .ok (.idiv, 1) := dgX12_rope_70.2.2.2.2.2.2.2.1
theorem dX12_rope_83 : decode cX12_rope 83 = .ok (.iastore, 1) := dgX12_rope_70.2.2.2.2.2.2.2.2.1
theorem dX12_rope_84 : decode cX12_rope 84 = .ok (.aload_n 0, 1) := dgX12_rope_70.2.2.2.2.2.2.2.2.2.1
theorem dX12_rope_85 : decode cX12_rope 85 = .ok (.getfield 40, 3) := dgX12_rope_70.2.2.2.2.2.2.2.2.2.2.1
theorem dX12_rope_88 : decode cX12_rope 88 = .ok (.aload_n 0, 1) := dgX12_rope_70.2.2.2.2.2.2.2.2.2.2.2.1
theorem dgX12_rope_89 : (decode cX12_rope 89 = .ok (.getfield 153, 3)) ∧ (decode cX12_rope 92 = .ok (.iload_n 2, 1)) ∧ (decode cX12_rope 93 = .ok (.bipush 10, 2)) ∧ (decode cX12_rope 95 = .ok (.irem, 1)) ∧ (decode cX12_rope 96 = .ok (.iconst 1, 1)) ∧ (decode cX12_rope 97 = .ok (.if_icmp .ne 7, 3)) ∧ (decode cX12_rope 100 = .ok (.iconst 1, 1)) ∧ (decode cX12_rope 101 = .ok (.goto 4, 3)) ∧ True := dkW [(89, .getfield 153, 3), (92, .iload_n 2, 1), (93, .bipush 10, 2), (95, .irem, 1), (96, .iconst 1, 1), (97, .if_icmp .ne 7, 3), (100, .iconst 1, 1), (101, .goto 4, 3)] 89 (by decide +kernel)
theorem dX12_rope_89 : decode cX12_rope 89 = .ok (.getfield 153, 3) := dgX12_rope_89.1
theorem dX12_rope_92 : decode cX12_rope 92 = .ok (.iload_n 2, 1) := dgX12_rope_89.2.1
theorem dX12_rope_93 : decode cX12_rope 93 = .ok (.bipush 10, 2) := dgX12_rope_89.2.2.1
theorem dX12_rope_95 : decode cX12_rope 95 = .ok (.irem, 1) := dgX12_rope_89.2.2.2.1
theorem dX12_rope_96 : decode cX12_rope 96 = .ok (.iconst 1, 1) := dgX12_rope_89.2.2.2.2.1
theorem dX12_rope_97 : decode cX12_rope 97 = .ok (.if_icmp .ne 7, 3) := dgX12_rope_89.2.2.2.2.2.1
theorem dX12_rope_100 : decode cX12_rope 100 = .ok (.iconst 1, 1) := dgX12_rope_89.2.2.2.2.2.2.1
theorem dX12_rope_101 : decode cX12_rope 101 = .ok (.goto 4, 3) := dgX12_rope_89.2.2.2.2.2.2.2.1
theorem dX12_rope_104 : decode cX12_rope 104 = .ok (.iconst (-1), 1) := by decide +kernel
theorem dgX12_rope_105 : (decode cX12_rope 105 = .ok (.iastore, 1)) ∧ (decode cX12_rope 106 = .ok (.aload_n 0, 1)) ∧ (decode cX12_rope 107 = .ok (.getfield 43, 3)) ∧ (decode cX12_rope 110 = .ok (.aload_n 0, 1)) ∧ (decode cX12_rope 111 = .ok (.getfield 153, 3)) ∧ (decode cX12_rope 114 = .ok (.iload_n 3, 1)) ∧ (decode cX12_rope 115 = .ok (.iastore, 1)) ∧ (decode cX12_rope 116 = .ok (.aload_n 0, 1)) ∧ (decode cX12_rope 117 = .ok (.getfield 46, 3)) ∧ (decode cX12_rope 120 = .ok (.aload_n 0, 1)) ∧ (decode cX12_rope 121 = .ok (.getfield 153, 3)) ∧ True := dkW [(105, .iastore, 1), (106, .aload_n 0, 1), (107, .getfield 43, 3), (110, .aload_n 0, 1), (111, .getfield 153, 3), (114, .iload_n 3, 1), (115, .iastore, 1), (116, .aload_n 0, 1), (117, .getfield 46, 3), (120, .aload_n 0, 1), (121, .getfield 153, 3)] 105 (by decide +kernel)
theorem dX12_rope_105 : decode cX12_rope 105 = .ok (.iastore, 1) := dgX12_rope_105.1
theorem dX12_rope_106 : decode cX12_rope 106 = .ok (.aload_n 0, 1) := dgX12_rope_105.2.1
theorem dX12_rope_107 : decode cX12_rope 107 = .ok (.getfield 43, 3) := dgX12_rope_105.2.2.1
theorem dX12_rope_110 : decode cX12_rope 110 = .ok (.aload_n 0, 1) := dgX12_rope_105.2.2.2.1
theorem dX12_rope_111 : decode cX12_rope 111 = .ok (.getfield 153, 3) := dgX12_rope_105.2.2.2.2.1
theorem dX12_rope_114 : decode cX12_rope 114 = .ok (.iload_n 3, 1) := dgX12_rope_105.2.2.2.2.2.1
theorem dX12_rope_115 : decode cX12_rope 115 = .ok (.iastore, 1) := dgX12_rope_105.2.2.2.2.2.2.1
theorem dX12_rope_116 : decode cX12_rope 116 = .ok (.aload_n 0, 1) := dgX12_rope_105.2.2.2.2.2.2.2.1
theorem dX12_rope_117 : decode cX12_rope 117 = .ok (.getfield 46, 3) := dgX12_rope_105.2.2.2.2.2.2.2.2.1
theorem dX12_rope_120 : decode cX12_rope 120 = .ok (.aload_n 0, 1) := dgX12_rope_105.2.2.2.2.2.2.2.2.2.1
theorem dX12_rope_121 : decode cX12_rope 121 = .ok (.getfield 153, 3) := dgX12_rope_105.2.2.2.2.2.2.2.2.2.2.1
theorem dX12_rope_124 : decode cX12_rope 124 = .ok (.iconst (-1), 1) := by decide +kernel
theorem dgX12_rope_125 : (decode cX12_rope 125 = .ok (.iastore, 1)) ∧ (decode cX12_rope 126 = .ok (.aload_n 0, 1)) ∧ (decode cX12_rope 127 = .ok (.dup, 1)) ∧ (decode cX12_rope 128 = .ok (.getfield 153, 3)) ∧ (decode cX12_rope 131 = .ok (.iconst 1, 1)) ∧ (decode cX12_rope 132 = .ok (.iadd, 1)) ∧ (decode cX12_rope 133 = .ok (.putfield 153, 3)) ∧ (decode cX12_rope 136 = .ok (.aload_n 0, 1)) ∧ (decode cX12_rope 137 = .ok (.iconst 0, 1)) ∧ (decode cX12_rope 138 = .ok (.putfield 162, 3)) ∧ (decode cX12_rope 141 = .ok (.aload_n 0, 1)) ∧ (decode cX12_rope 142 = .ok (.getfield 153, 3)) ∧ True := dkW [(125, .iastore, 1), (126, .aload_n 0, 1), (127, .dup, 1), (128, .getfield 153, 3), (131, .iconst 1, 1), (132, .iadd, 1), (133, .putfield 153, 3), (136, .aload_n 0, 1), (137, .iconst 0, 1), (138, .putfield 162, 3), (141, .aload_n 0, 1), (142, .getfield 153, 3)] 125 (by decide +kernel)
theorem dX12_rope_125 : decode cX12_rope 125 = .ok (.iastore, 1) := dgX12_rope_125.1
theorem dX12_rope_126 : decode cX12_rope 126 = .ok (.aload_n 0, 1) := dgX12_rope_125.2.1
theorem dX12_rope_127 : decode cX12_rope 127 = .ok (.dup, 1) := dgX12_rope_125.2.2.1
theorem dX12_rope_128 : decode cX12_rope 128 = .ok (.getfield 153, 3) := dgX12_rope_125.2.2.2.1
theorem dX12_rope_131 : decode cX12_rope 131 = .ok (.iconst 1, 1) := dgX12_rope_125.2.2.2.2.1
theorem dX12_rope_132 : decode cX12_rope 132 = .ok (.iadd, 1) := dgX12_rope_125.2.2.2.2.2.1
theorem dX12_rope_133 : decode cX12_rope 133 = .ok (.putfield 153, 3) := dgX12_rope_125.2.2.2.2.2.2.1
theorem dX12_rope_136 : decode cX12_rope 136 = .ok (.aload_n 0, 1) := dgX12_rope_125.2.2.2.2.2.2.2.1
theorem dX12_rope_137 : decode cX12_rope 137 = .ok (.iconst 0, 1) := dgX12_rope_125.2.2.2.2.2.2.2.2.1
theorem dX12_rope_138 : decode cX12_rope 138 = .ok (.putfield 162, 3) := dgX12_rope_125.2.2.2.2.2.2.2.2.2.1
theorem dX12_rope_141 : decode cX12_rope 141 = .ok (.aload_n 0, 1) := dgX12_rope_125.2.2.2.2.2.2.2.2.2.2.1
theorem dX12_rope_142 : decode cX12_rope 142 = .ok (.getfield 153, 3) := dgX12_rope_125.2.2.2.2.2.2.2.2.2.2.2.1
theorem dgX12_rope_145 : (decode cX12_rope 145 = .ok (.iconst 1, 1)) ∧ (decode cX12_rope 146 = .ok (.isub, 1)) ∧ (decode cX12_rope 147 = .ok (.ireturn, 1)) ∧ True := dkW [(145, .iconst 1, 1), (146, .isub, 1), (147, .ireturn, 1)] 145 (by decide +kernel)
theorem dX12_rope_145 : decode cX12_rope 145 = .ok (.iconst 1, 1) := dgX12_rope_145.1
theorem dX12_rope_146 : decode cX12_rope 146 = .ok (.isub, 1) := dgX12_rope_145.2.1
theorem dX12_rope_147 : decode cX12_rope 147 = .ok (.ireturn, 1) := dgX12_rope_145.2.2.1
abbrev rmX12_rope : Room := { frames := 2, cells := 0, slots := 0, locals := 43 }
noncomputable def fX12_rope_b47 (N : Nat)  (t : Nat) (h : Hs)  : Option (Int32 × Hs) :=
  some ((-1), h)
set_option maxHeartbeats 4000000 in
set_option maxRecDepth 20000 in
theorem wX12_rope_b47 {p : Program} {l : Launch} {e : Env} {s : State} {m : MethodId} {args : Array Value} {below : List Frame} {meth : Method} {c : Code} {G : Gl} {N : Nat} {h : Hs} {r : Int32 × Hs}  {t : Nat}  (C : Cx p s m args meth c cX12_rope RX12 4 G) (hret : meth.sig.returnType = (some .int))  (hf : fX12_rope_b47 N  t h  = some r) : V p l e rmX12_rope s m args below meth c G 4 (MQ below (QcG G (some (.inl r.1)) r.2) args s rmX12_rope.cells rmX12_rope.slots (AG G)) h 0 0 47 [some (.inr (some t)), none, none, none] [] := by
  unfold fX12_rope_b47 at hf
  refine r_iconst (v := -1) C dX12_rope_47 (by decide) ?_
  exact r_iretF C dX12_rope_48 hret hf (by decide) (by decide)
noncomputable def fX12_rope_b105 (N : Nat)  (t : Nat) (h : Hs) (x3 : Int32) (q0 : Option Nat) (u1 : Int32) (u2 : Int32) : Option (Int32 × Hs) :=
  (sA h q0 u1 u2).bind fun h1 =>
  (oR 12 15 h1 (some t)).bind fun o2 =>
  (oI 12 11 h1 (some t)).bind fun v3 =>
  (sA h1 o2 v3 x3).bind fun h4 =>
  (oR 12 16 h4 (some t)).bind fun o5 =>
  (oI 12 11 h4 (some t)).bind fun v6 =>
  (sA h4 o5 v6 (-1)).bind fun h7 =>
  (oI 12 11 h7 (some t)).bind fun v8 =>
  (qI 12 11 h7 (some t) (v8 + 1)).bind fun h9 =>
  (qZ 12 43 h9 (some t) 0).bind fun h10 =>
  (oI 12 11 h10 (some t)).bind fun v11 =>
  some (v11 - 1, h10)
set_option maxHeartbeats 4000000 in
set_option maxRecDepth 20000 in
theorem wX12_rope_b105 {p : Program} {l : Launch} {e : Env} {s : State} {m : MethodId} {args : Array Value} {below : List Frame} {meth : Method} {c : Code} {G : Gl} {N : Nat} {h : Hs} {r : Int32 × Hs}  {t : Nat} {x3 : Int32} {q0 : Option Nat} {u1 : Int32} {u2 : Int32} (C : Cx p s m args meth c cX12_rope RX12 4 G) (hret : meth.sig.returnType = (some .int))  (hf : fX12_rope_b105 N  t h x3 q0 u1 u2 = some r) : V p l e rmX12_rope s m args below meth c G 4 (MQ below (QcG G (some (.inl r.1)) r.2) args s rmX12_rope.cells rmX12_rope.slots (AG G)) h 0 0 105 [some (.inr (some t)), none, none, some (.inl x3)] [.inl u2, .inl u1, .inr q0] := by
  unfold fX12_rope_b105 at hf
  obtain ⟨h1, eh1, hf⟩ := bS hf
  refine r_iast C dX12_rope_105 eh1 ?_
  refine r_aload_n C dX12_rope_106 rfl ?_
  obtain ⟨o2, eo2, hf⟩ := bS hf
  refine r_getR C dX12_rope_107 fl_X12_43 rfl eo2 ?_
  refine r_aload_n C dX12_rope_110 rfl ?_
  obtain ⟨v3, ev3, hf⟩ := bS hf
  refine r_getI C dX12_rope_111 fl_X12_153 rfl ev3 ?_
  refine r_iload_n C dX12_rope_114 rfl ?_
  obtain ⟨h4, eh4, hf⟩ := bS hf
  refine r_iast C dX12_rope_115 eh4 ?_
  refine r_aload_n C dX12_rope_116 rfl ?_
  obtain ⟨o5, eo5, hf⟩ := bS hf
  refine r_getR C dX12_rope_117 fl_X12_46 rfl eo5 ?_
  refine r_aload_n C dX12_rope_120 rfl ?_
  obtain ⟨v6, ev6, hf⟩ := bS hf
  refine r_getI C dX12_rope_121 fl_X12_153 rfl ev6 ?_
  refine r_iconst (v := -1) C dX12_rope_124 (by decide) ?_
  obtain ⟨h7, eh7, hf⟩ := bS hf
  refine r_iast C dX12_rope_125 eh7 ?_
  refine r_aload_n C dX12_rope_126 rfl ?_
  refine r_dup C dX12_rope_127 ?_
  obtain ⟨v8, ev8, hf⟩ := bS hf
  refine r_getI C dX12_rope_128 fl_X12_153 rfl ev8 ?_
  refine r_iconst (v := 1) C dX12_rope_131 (by decide) ?_
  refine r_iadd C dX12_rope_132 ?_
  obtain ⟨h9, eh9, hf⟩ := bS hf
  refine r_putI C dX12_rope_133 fl_X12_153 (Or.inl fn_12_11) rfl eh9 ?_
  refine r_aload_n C dX12_rope_136 rfl ?_
  refine r_iconst (v := 0) C dX12_rope_137 (by decide) ?_
  obtain ⟨h10, eh10, hf⟩ := bS hf
  refine r_putZ C dX12_rope_138 fl_X12_162 (Or.inl fn_12_43) rfl eh10 ?_
  refine r_aload_n C dX12_rope_141 rfl ?_
  obtain ⟨v11, ev11, hf⟩ := bS hf
  refine r_getI C dX12_rope_142 fl_X12_153 rfl ev11 ?_
  refine r_iconst (v := 1) C dX12_rope_145 (by decide) ?_
  refine r_isub C dX12_rope_146 ?_
  exact r_iretF C dX12_rope_147 hret hf (by decide) (by decide)
noncomputable def fX12_rope (N : Nat) (h : Hs) (t : Nat) (p1 : Int32) (p2 : Int32) (p3 : Int32) : Option (Int32 × Hs) :=
  (rc 12 h (some t)).bind fun a2 =>
  (fX12_isThing N h a2 p1).bind fun r1 =>
  if r1.1 = 0 then (
  fX12_rope_b47 N t r1.2)
  else (fX12_in N r1.2 (p2 / 10) 1 5).bind fun r3 =>
  if r3.1 = 0 then (
  fX12_rope_b47 N t r3.2)
  else if p2 < 0 then (
  fX12_rope_b47 N t r3.2)
  else (fX12_in N r3.2 (p2 - p2 / 10 * 10) 1 2).bind fun r4 =>
  if r4.1 = 0 then (
  fX12_rope_b47 N t r4.2)
  else (fX12_in N r4.2 p3 1 9999).bind fun r5 =>
  if r5.1 = 0 then (
  fX12_rope_b47 N t r5.2)
  else (oI 12 11 r5.2 (some t)).bind fun v6 =>
  if v6 = 40 then (
  some ((-3), r5.2))
  else (oR 12 12 r5.2 (some t)).bind fun o7 =>
  (oI 12 11 r5.2 (some t)).bind fun v8 =>
  (sA r5.2 o7 v8 p1).bind fun h9 =>
  (oR 12 13 h9 (some t)).bind fun o10 =>
  (oI 12 11 h9 (some t)).bind fun v11 =>
  (sA h9 o10 v11 (p2 / 10)).bind fun h12 =>
  (oR 12 14 h12 (some t)).bind fun o13 =>
  (oI 12 11 h12 (some t)).bind fun v14 =>
  if (p2 - p2 / 10 * 10) = 1 then (
  fX12_rope_b105 N t h12 p3 o13 v14 1)
  else fX12_rope_b105 N t h12 p3 o13 v14 (-1)
set_option maxHeartbeats 4000000 in
set_option maxRecDepth 20000 in
theorem kX12_rope (l : Launch) (G : Gl) {N : Nat} {h : Hs} {t : Nat} {p1 : Int32} {p2 : Int32} {p3 : Int32} {r : Int32 × Hs} (hf : fX12_rope N h t p1 p2 p3 = some r) : CT l G yX12_rope cX12_rope 4 (some .int) rmX12_rope [.inr (some t), .inl p1, .inl p2, .inl p3] h (some (.inl r.1)) r.2 := by
  refine mk_CT (by decide) (Nat.le_of_ble_eq_true rfl) ?_
  intro p e s m args below meth c C hret hin
  unfold fX12_rope at hf
  refine r_aload_n C dX12_rope_0 rfl ?_
  refine r_iload_n C dX12_rope_1 rfl ?_
  obtain ⟨a2, ea2, hf⟩ := bS hf
  obtain ⟨r1, er1, hf⟩ := bS hf
  refine r_invV1 (As := [.inl p1]) (ci := 12) C dX12_rope_2 mcX12_isThing wd_1192 wd_1194 wp_31 rfl rfl (by decide) ⟨by decide, by decide⟩ ⟨by decide, by decide⟩ rfl (Nat.le_of_ble_eq_true rfl) ea2 (kX12_isThing l G er1) ?_
  refine r_if_eq (tgt := 47) C dX12_rope_5 (by decide) (fun hc => ?_) (fun hc => ?_)
  · have hf := ifT hf hc
    exact V.sub (wX12_rope_b47 C hret hf) (LW_s rfl (LW_n (LW_n (LW_n (LW_e)))))
  · have hf := ifF hf hc
    refine r_iload_n C dX12_rope_8 rfl ?_
    refine r_bipush (v := 10) C dX12_rope_9 (by decide) ?_
    refine r_idivK C dX12_rope_11 (by decide) ?_
    refine r_iconst (v := 1) C dX12_rope_12 (by decide) ?_
    refine r_iconst (v := 5) C dX12_rope_13 (by decide) ?_
    obtain ⟨r3, er3, hf⟩ := bS hf
    refine r_invS1 (As := [.inl (p2 / 10), .inl 1, .inl 5]) C dX12_rope_14 mcX12_in wd_1185 wd_1186 ⟨by decide, by decide⟩ ⟨by decide, by decide⟩ rfl (Nat.le_of_ble_eq_true rfl) (kX12_in l G er3) ?_
    refine r_if_eq (tgt := 47) C dX12_rope_17 (by decide) (fun hc => ?_) (fun hc => ?_)
    · have hf := ifT hf hc
      exact V.sub (wX12_rope_b47 C hret hf) (LW_s rfl (LW_n (LW_n (LW_n (LW_e)))))
    · have hf := ifF hf hc
      refine r_iload_n C dX12_rope_20 rfl ?_
      refine r_if_lt (tgt := 47) C dX12_rope_21 (by decide) (fun hc => ?_) (fun hc => ?_)
      · have hf := ifT hf hc
        exact V.sub (wX12_rope_b47 C hret hf) (LW_s rfl (LW_n (LW_n (LW_n (LW_e)))))
      · have hf := ifF hf hc
        refine r_iload_n C dX12_rope_24 rfl ?_
        refine r_bipush (v := 10) C dX12_rope_25 (by decide) ?_
        refine r_iremK C dX12_rope_27 (by decide) ?_
        refine r_iconst (v := 1) C dX12_rope_28 (by decide) ?_
        refine r_iconst (v := 2) C dX12_rope_29 (by decide) ?_
        obtain ⟨r4, er4, hf⟩ := bS hf
        refine r_invS1 (As := [.inl (p2 - p2 / 10 * 10), .inl 1, .inl 2]) C dX12_rope_30 mcX12_in wd_1185 wd_1186 ⟨by decide, by decide⟩ ⟨by decide, by decide⟩ rfl (Nat.le_of_ble_eq_true rfl) (kX12_in l G er4) ?_
        refine r_if_eq (tgt := 47) C dX12_rope_33 (by decide) (fun hc => ?_) (fun hc => ?_)
        · have hf := ifT hf hc
          exact V.sub (wX12_rope_b47 C hret hf) (LW_s rfl (LW_n (LW_n (LW_n (LW_e)))))
        · have hf := ifF hf hc
          refine r_iload_n C dX12_rope_36 rfl ?_
          refine r_iconst (v := 1) C dX12_rope_37 (by decide) ?_
          refine r_sipush (v := 9999) C dX12_rope_38 (by decide) ?_
          obtain ⟨r5, er5, hf⟩ := bS hf
          refine r_invS1 (As := [.inl p3, .inl 1, .inl 9999]) C dX12_rope_41 mcX12_in wd_1185 wd_1186 ⟨by decide, by decide⟩ ⟨by decide, by decide⟩ rfl (Nat.le_of_ble_eq_true rfl) (kX12_in l G er5) ?_
          refine r_if_ne (tgt := 49) C dX12_rope_44 (by decide) (fun hc => ?_) (fun hc => ?_)
          · have hf := ifF hf hc
            refine r_aload_n C dX12_rope_49 rfl ?_
            obtain ⟨v6, ev6, hf⟩ := bS hf
            refine r_getI C dX12_rope_50 fl_X12_153 rfl ev6 ?_
            refine r_bipush (v := 40) C dX12_rope_53 (by decide) ?_
            refine r_icmp_ne (tgt := 61) C dX12_rope_55 (by decide) (fun hc => ?_) (fun hc => ?_)
            · have hf := ifF hf hc
              refine r_aload_n C dX12_rope_61 rfl ?_
              obtain ⟨o7, eo7, hf⟩ := bS hf
              refine r_getR C dX12_rope_62 fl_X12_34 rfl eo7 ?_
              refine r_aload_n C dX12_rope_65 rfl ?_
              obtain ⟨v8, ev8, hf⟩ := bS hf
              refine r_getI C dX12_rope_66 fl_X12_153 rfl ev8 ?_
              refine r_iload_n C dX12_rope_69 rfl ?_
              obtain ⟨h9, eh9, hf⟩ := bS hf
              refine r_iast C dX12_rope_70 eh9 ?_
              refine r_aload_n C dX12_rope_71 rfl ?_
              obtain ⟨o10, eo10, hf⟩ := bS hf
              refine r_getR C dX12_rope_72 fl_X12_37 rfl eo10 ?_
              refine r_aload_n C dX12_rope_75 rfl ?_
              obtain ⟨v11, ev11, hf⟩ := bS hf
              refine r_getI C dX12_rope_76 fl_X12_153 rfl ev11 ?_
              refine r_iload_n C dX12_rope_79 rfl ?_
              refine r_bipush (v := 10) C dX12_rope_80 (by decide) ?_
              refine r_idivK C dX12_rope_82 (by decide) ?_
              obtain ⟨h12, eh12, hf⟩ := bS hf
              refine r_iast C dX12_rope_83 eh12 ?_
              refine r_aload_n C dX12_rope_84 rfl ?_
              obtain ⟨o13, eo13, hf⟩ := bS hf
              refine r_getR C dX12_rope_85 fl_X12_40 rfl eo13 ?_
              refine r_aload_n C dX12_rope_88 rfl ?_
              obtain ⟨v14, ev14, hf⟩ := bS hf
              refine r_getI C dX12_rope_89 fl_X12_153 rfl ev14 ?_
              refine r_iload_n C dX12_rope_92 rfl ?_
              refine r_bipush (v := 10) C dX12_rope_93 (by decide) ?_
              refine r_iremK C dX12_rope_95 (by decide) ?_
              refine r_iconst (v := 1) C dX12_rope_96 (by decide) ?_
              refine r_icmp_ne (tgt := 104) C dX12_rope_97 (by decide) (fun hc => ?_) (fun hc => ?_)
              · have hf := ifF hf hc
                refine r_iconst (v := -1) C dX12_rope_104 (by decide) ?_
                exact V.sub (wX12_rope_b105 C hret hf) (LW_s rfl (LW_n (LW_n (LW_s rfl (LW_e)))))
              · have hf := ifT hf hc
                refine r_iconst (v := 1) C dX12_rope_100 (by decide) ?_
                refine r_goto (tgt := 105) C dX12_rope_101 (by decide) ?_
                exact V.sub (wX12_rope_b105 C hret hf) (LW_s rfl (LW_n (LW_n (LW_s rfl (LW_e)))))
            · have hf := ifT hf hc
              refine r_bipush (v := -3) C dX12_rope_58 (by decide) ?_
              exact r_iretF C dX12_rope_60 hret hf (by decide) (by decide)
          · have hf := ifT hf hc
            exact V.sub (wX12_rope_b47 C hret hf) (LW_s rfl (LW_n (LW_n (LW_n (LW_e)))))

theorem dgX12_load_0 : (decode cX12_load 0 = .ok (.aload_n 0, 1)) ∧ (decode cX12_load 1 = .ok (.getfield 16, 3)) ∧ (decode cX12_load 4 = .ok (.aload_n 0, 1)) ∧ (decode cX12_load 5 = .ok (.getfield 34, 3)) ∧ (decode cX12_load 8 = .ok (.iload_n 1, 1)) ∧ (decode cX12_load 9 = .ok (.iaload, 1)) ∧ (decode cX12_load 10 = .ok (.iaload, 1)) ∧ (decode cX12_load 11 = .ok (.aload_n 0, 1)) ∧ (decode cX12_load 12 = .ok (.getfield 37, 3)) ∧ (decode cX12_load 15 = .ok (.iload_n 1, 1)) ∧ (decode cX12_load 16 = .ok (.iaload, 1)) ∧ (decode cX12_load 17 = .ok (.iadd, 1)) ∧ True := dkW [(0, .aload_n 0, 1), (1, .getfield 16, 3), (4, .aload_n 0, 1), (5, .getfield 34, 3), (8, .iload_n 1, 1), (9, .iaload, 1), (10, .iaload, 1), (11, .aload_n 0, 1), (12, .getfield 37, 3), (15, .iload_n 1, 1), (16, .iaload, 1), (17, .iadd, 1)] 0 (by decide +kernel)
theorem dX12_load_0 : decode cX12_load 0 = .ok (.aload_n 0, 1) := dgX12_load_0.1
theorem dX12_load_1 : decode cX12_load 1 = .ok (.getfield 16, 3) := dgX12_load_0.2.1
theorem dX12_load_4 : decode cX12_load 4 = .ok (.aload_n 0, 1) := dgX12_load_0.2.2.1
theorem dX12_load_5 : decode cX12_load 5 = .ok (.getfield 34, 3) := dgX12_load_0.2.2.2.1
theorem dX12_load_8 : decode cX12_load 8 = .ok (.iload_n 1, 1) := dgX12_load_0.2.2.2.2.1
theorem dX12_load_9 : decode cX12_load 9 = .ok (.iaload, 1) := dgX12_load_0.2.2.2.2.2.1
theorem dX12_load_10 : decode cX12_load 10 = .ok (.iaload, 1) := dgX12_load_0.2.2.2.2.2.2.1
theorem dX12_load_11 : decode cX12_load 11 = .ok (.aload_n 0, 1) := dgX12_load_0.2.2.2.2.2.2.2.1
theorem dX12_load_12 : decode cX12_load 12 = .ok (.getfield 37, 3) := dgX12_load_0.2.2.2.2.2.2.2.2.1
theorem dX12_load_15 : decode cX12_load 15 = .ok (.iload_n 1, 1) := dgX12_load_0.2.2.2.2.2.2.2.2.2.1
theorem dX12_load_16 : decode cX12_load 16 = .ok (.iaload, 1) := dgX12_load_0.2.2.2.2.2.2.2.2.2.2.1
theorem dX12_load_17 : decode cX12_load 17 = .ok (.iadd, 1) := dgX12_load_0.2.2.2.2.2.2.2.2.2.2.2.1
theorem dgX12_load_18 : (decode cX12_load 18 = .ok (.iconst 1, 1)) ∧ (decode cX12_load 19 = .ok (.isub, 1)) ∧ (decode cX12_load 20 = .ok (.aload_n 0, 1)) ∧ (decode cX12_load 21 = .ok (.getfield 37, 3)) ∧ (decode cX12_load 24 = .ok (.iload_n 1, 1)) ∧ (decode cX12_load 25 = .ok (.iaload, 1)) ∧ (decode cX12_load 26 = .ok (.idiv, 1)) ∧ (decode cX12_load 27 = .ok (.ireturn, 1)) ∧ True := dkW [(18, .iconst 1, 1), (19, .isub, 1), (20, .aload_n 0, 1), (21, .getfield 37, 3), (24, .iload_n 1, 1), (25, .iaload, 1), (26, .idiv, 1), (27, .ireturn, 1)] 18 (by decide +kernel)
theorem dX12_load_18 : decode cX12_load 18 = .ok (.iconst 1, 1) := dgX12_load_18.1
theorem dX12_load_19 : decode cX12_load 19 = .ok (.isub, 1) := dgX12_load_18.2.1
theorem dX12_load_20 : decode cX12_load 20 = .ok (.aload_n 0, 1) := dgX12_load_18.2.2.1
theorem dX12_load_21 : decode cX12_load 21 = .ok (.getfield 37, 3) := dgX12_load_18.2.2.2.1
theorem dX12_load_24 : decode cX12_load 24 = .ok (.iload_n 1, 1) := dgX12_load_18.2.2.2.2.1
theorem dX12_load_25 : decode cX12_load 25 = .ok (.iaload, 1) := dgX12_load_18.2.2.2.2.2.1
theorem dX12_load_26 : decode cX12_load 26 = .ok (.idiv, 1) := dgX12_load_18.2.2.2.2.2.2.1
theorem dX12_load_27 : decode cX12_load 27 = .ok (.ireturn, 1) := dgX12_load_18.2.2.2.2.2.2.2.1
abbrev rmX12_load : Room := { frames := 0, cells := 0, slots := 0, locals := 0 }
noncomputable def fX12_load (N : Nat) (h : Hs) (t : Nat) (p1 : Int32) : Option (Int32 × Hs) :=
  (oR 12 4 h (some t)).bind fun o1 =>
  (oR 12 12 h (some t)).bind fun o2 =>
  (lA 20 h o2 p1).bind fun v3 =>
  (lA 20 h o1 v3).bind fun v4 =>
  (oR 12 13 h (some t)).bind fun o5 =>
  (lA 20 h o5 p1).bind fun v6 =>
  (oR 12 13 h (some t)).bind fun o7 =>
  (lA 20 h o7 p1).bind fun v8 =>
  (dv ((v4 + v6) - 1) v8).bind fun v9 =>
  some (v9, h)
set_option maxHeartbeats 4000000 in
set_option maxRecDepth 20000 in
theorem kX12_load (l : Launch) (G : Gl) {N : Nat} {h : Hs} {t : Nat} {p1 : Int32} {r : Int32 × Hs} (hf : fX12_load N h t p1 = some r) : CT l G yX12_load cX12_load 2 (some .int) rmX12_load [.inr (some t), .inl p1] h (some (.inl r.1)) r.2 := by
  refine mk_CT (by decide) (Nat.le_of_ble_eq_true rfl) ?_
  intro p e s m args below meth c C hret hin
  unfold fX12_load at hf
  refine r_aload_n C dX12_load_0 rfl ?_
  obtain ⟨o1, eo1, hf⟩ := bS hf
  refine r_getR C dX12_load_1 fl_X12_16 rfl eo1 ?_
  refine r_aload_n C dX12_load_4 rfl ?_
  obtain ⟨o2, eo2, hf⟩ := bS hf
  refine r_getR C dX12_load_5 fl_X12_34 rfl eo2 ?_
  refine r_iload_n C dX12_load_8 rfl ?_
  obtain ⟨v3, ev3, hf⟩ := bS hf
  refine r_iald C dX12_load_9 ev3 ?_
  obtain ⟨v4, ev4, hf⟩ := bS hf
  refine r_iald C dX12_load_10 ev4 ?_
  refine r_aload_n C dX12_load_11 rfl ?_
  obtain ⟨o5, eo5, hf⟩ := bS hf
  refine r_getR C dX12_load_12 fl_X12_37 rfl eo5 ?_
  refine r_iload_n C dX12_load_15 rfl ?_
  obtain ⟨v6, ev6, hf⟩ := bS hf
  refine r_iald C dX12_load_16 ev6 ?_
  refine r_iadd C dX12_load_17 ?_
  refine r_iconst (v := 1) C dX12_load_18 (by decide) ?_
  refine r_isub C dX12_load_19 ?_
  refine r_aload_n C dX12_load_20 rfl ?_
  obtain ⟨o7, eo7, hf⟩ := bS hf
  refine r_getR C dX12_load_21 fl_X12_37 rfl eo7 ?_
  refine r_iload_n C dX12_load_24 rfl ?_
  obtain ⟨v8, ev8, hf⟩ := bS hf
  refine r_iald C dX12_load_25 ev8 ?_
  obtain ⟨v9, ev9, hf⟩ := bS hf
  refine r_idiv C dX12_load_26 ev9 ?_
  exact r_iretF C dX12_load_27 hret hf (by decide) (by decide)

theorem dgX12_ofRope_0 : (decode cX12_ofRope 0 = .ok (.aload_n 0, 1)) ∧ (decode cX12_ofRope 1 = .ok (.iload_n 1, 1)) ∧ (decode cX12_ofRope 2 = .ok (.invokevirtual 174, 3)) ∧ (decode cX12_ofRope 5 = .ok (.ifCond .ne 6, 3)) ∧ (decode cX12_ofRope 8 = .ok (.ldc 177, 2)) ∧ (decode cX12_ofRope 10 = .ok (.ireturn, 1)) ∧ (decode cX12_ofRope 11 = .ok (.iload_n 2, 1)) ∧ True := dkW [(0, .aload_n 0, 1), (1, .iload_n 1, 1), (2, .invokevirtual 174, 3), (5, .ifCond .ne 6, 3), (8, .ldc 177, 2), (10, .ireturn, 1), (11, .iload_n 2, 1)] 0 (by decide +kernel)
theorem dX12_ofRope_0 : decode cX12_ofRope 0 = .ok (.aload_n 0, 1) := dgX12_ofRope_0.1
theorem dX12_ofRope_1 : decode cX12_ofRope 1 = .ok (.iload_n 1, 1) := dgX12_ofRope_0.2.1
theorem dX12_ofRope_2 : decode cX12_ofRope 2 = .ok (.invokevirtual 174, 3) := dgX12_ofRope_0.2.2.1
theorem dX12_ofRope_5 : decode cX12_ofRope 5 = .ok (.ifCond .ne 6, 3) := dgX12_ofRope_0.2.2.2.1
theorem dX12_ofRope_8 : decode cX12_ofRope 8 = .ok (.ldc 177, 2) := dgX12_ofRope_0.2.2.2.2.1
theorem dX12_ofRope_10 : decode cX12_ofRope 10 = .ok (.ireturn, 1) := dgX12_ofRope_0.2.2.2.2.2.1
theorem dX12_ofRope_11 : decode cX12_ofRope 11 = .ok (.iload_n 2, 1) := dgX12_ofRope_0.2.2.2.2.2.2.1
theorem dX12_ofRope_12 : decode cX12_ofRope 12 = .ok (.tableswitch 124 0 7 #[48, 55, 62, 69, 76, 82, 89, 109], 48) := by decide +kernel
theorem dgX12_ofRope_60 : (decode cX12_ofRope 60 = .ok (.aload_n 0, 1)) ∧ (decode cX12_ofRope 61 = .ok (.getfield 34, 3)) ∧ (decode cX12_ofRope 64 = .ok (.iload_n 1, 1)) ∧ (decode cX12_ofRope 65 = .ok (.iaload, 1)) ∧ (decode cX12_ofRope 66 = .ok (.ireturn, 1)) ∧ (decode cX12_ofRope 67 = .ok (.aload_n 0, 1)) ∧ (decode cX12_ofRope 68 = .ok (.getfield 37, 3)) ∧ (decode cX12_ofRope 71 = .ok (.iload_n 1, 1)) ∧ (decode cX12_ofRope 72 = .ok (.iaload, 1)) ∧ (decode cX12_ofRope 73 = .ok (.ireturn, 1)) ∧ (decode cX12_ofRope 74 = .ok (.aload_n 0, 1)) ∧ (decode cX12_ofRope 75 = .ok (.getfield 40, 3)) ∧ True := dkW [(60, .aload_n 0, 1), (61, .getfield 34, 3), (64, .iload_n 1, 1), (65, .iaload, 1), (66, .ireturn, 1), (67, .aload_n 0, 1), (68, .getfield 37, 3), (71, .iload_n 1, 1), (72, .iaload, 1), (73, .ireturn, 1), (74, .aload_n 0, 1), (75, .getfield 40, 3)] 60 (by decide +kernel)
theorem dX12_ofRope_60 : decode cX12_ofRope 60 = .ok (.aload_n 0, 1) := dgX12_ofRope_60.1
theorem dX12_ofRope_61 : decode cX12_ofRope 61 = .ok (.getfield 34, 3) := dgX12_ofRope_60.2.1
theorem dX12_ofRope_64 : decode cX12_ofRope 64 = .ok (.iload_n 1, 1) := dgX12_ofRope_60.2.2.1
theorem dX12_ofRope_65 : decode cX12_ofRope 65 = .ok (.iaload, 1) := dgX12_ofRope_60.2.2.2.1
theorem dX12_ofRope_66 : decode cX12_ofRope 66 = .ok (.ireturn, 1) := dgX12_ofRope_60.2.2.2.2.1
theorem dX12_ofRope_67 : decode cX12_ofRope 67 = .ok (.aload_n 0, 1) := dgX12_ofRope_60.2.2.2.2.2.1
theorem dX12_ofRope_68 : decode cX12_ofRope 68 = .ok (.getfield 37, 3) := dgX12_ofRope_60.2.2.2.2.2.2.1
theorem dX12_ofRope_71 : decode cX12_ofRope 71 = .ok (.iload_n 1, 1) := dgX12_ofRope_60.2.2.2.2.2.2.2.1
theorem dX12_ofRope_72 : decode cX12_ofRope 72 = .ok (.iaload, 1) := dgX12_ofRope_60.2.2.2.2.2.2.2.2.1
theorem dX12_ofRope_73 : decode cX12_ofRope 73 = .ok (.ireturn, 1) := dgX12_ofRope_60.2.2.2.2.2.2.2.2.2.1
theorem dX12_ofRope_74 : decode cX12_ofRope 74 = .ok (.aload_n 0, 1) := dgX12_ofRope_60.2.2.2.2.2.2.2.2.2.2.1
theorem dX12_ofRope_75 : decode cX12_ofRope 75 = .ok (.getfield 40, 3) := dgX12_ofRope_60.2.2.2.2.2.2.2.2.2.2.2.1
theorem dgX12_ofRope_78 : (decode cX12_ofRope 78 = .ok (.iload_n 1, 1)) ∧ (decode cX12_ofRope 79 = .ok (.iaload, 1)) ∧ (decode cX12_ofRope 80 = .ok (.ireturn, 1)) ∧ (decode cX12_ofRope 81 = .ok (.aload_n 0, 1)) ∧ (decode cX12_ofRope 82 = .ok (.getfield 43, 3)) ∧ (decode cX12_ofRope 85 = .ok (.iload_n 1, 1)) ∧ (decode cX12_ofRope 86 = .ok (.iaload, 1)) ∧ (decode cX12_ofRope 87 = .ok (.ireturn, 1)) ∧ (decode cX12_ofRope 88 = .ok (.aload_n 0, 1)) ∧ (decode cX12_ofRope 89 = .ok (.iload_n 1, 1)) ∧ (decode cX12_ofRope 90 = .ok (.invokevirtual 178, 3)) ∧ (decode cX12_ofRope 93 = .ok (.ireturn, 1)) ∧ True := dkW [(78, .iload_n 1, 1), (79, .iaload, 1), (80, .ireturn, 1), (81, .aload_n 0, 1), (82, .getfield 43, 3), (85, .iload_n 1, 1), (86, .iaload, 1), (87, .ireturn, 1), (88, .aload_n 0, 1), (89, .iload_n 1, 1), (90, .invokevirtual 178, 3), (93, .ireturn, 1)] 78 (by decide +kernel)
theorem dX12_ofRope_78 : decode cX12_ofRope 78 = .ok (.iload_n 1, 1) := dgX12_ofRope_78.1
theorem dX12_ofRope_79 : decode cX12_ofRope 79 = .ok (.iaload, 1) := dgX12_ofRope_78.2.1
theorem dX12_ofRope_80 : decode cX12_ofRope 80 = .ok (.ireturn, 1) := dgX12_ofRope_78.2.2.1
theorem dX12_ofRope_81 : decode cX12_ofRope 81 = .ok (.aload_n 0, 1) := dgX12_ofRope_78.2.2.2.1
theorem dX12_ofRope_82 : decode cX12_ofRope 82 = .ok (.getfield 43, 3) := dgX12_ofRope_78.2.2.2.2.1
theorem dX12_ofRope_85 : decode cX12_ofRope 85 = .ok (.iload_n 1, 1) := dgX12_ofRope_78.2.2.2.2.2.1
theorem dX12_ofRope_86 : decode cX12_ofRope 86 = .ok (.iaload, 1) := dgX12_ofRope_78.2.2.2.2.2.2.1
theorem dX12_ofRope_87 : decode cX12_ofRope 87 = .ok (.ireturn, 1) := dgX12_ofRope_78.2.2.2.2.2.2.2.1
theorem dX12_ofRope_88 : decode cX12_ofRope 88 = .ok (.aload_n 0, 1) := dgX12_ofRope_78.2.2.2.2.2.2.2.2.1
theorem dX12_ofRope_89 : decode cX12_ofRope 89 = .ok (.iload_n 1, 1) := dgX12_ofRope_78.2.2.2.2.2.2.2.2.2.1
theorem dX12_ofRope_90 : decode cX12_ofRope 90 = .ok (.invokevirtual 178, 3) := dgX12_ofRope_78.2.2.2.2.2.2.2.2.2.2.1
theorem dX12_ofRope_93 : decode cX12_ofRope 93 = .ok (.ireturn, 1) := dgX12_ofRope_78.2.2.2.2.2.2.2.2.2.2.2.1
theorem dgX12_ofRope_94 : (decode cX12_ofRope 94 = .ok (.aload_n 0, 1)) ∧ (decode cX12_ofRope 95 = .ok (.getfield 46, 3)) ∧ (decode cX12_ofRope 98 = .ok (.iload_n 1, 1)) ∧ (decode cX12_ofRope 99 = .ok (.iaload, 1)) ∧ (decode cX12_ofRope 100 = .ok (.ireturn, 1)) ∧ (decode cX12_ofRope 101 = .ok (.aload_n 0, 1)) ∧ (decode cX12_ofRope 102 = .ok (.getfield 46, 3)) ∧ (decode cX12_ofRope 105 = .ok (.iload_n 1, 1)) ∧ (decode cX12_ofRope 106 = .ok (.iaload, 1)) ∧ (decode cX12_ofRope 107 = .ok (.ifCond .ge 7, 3)) ∧ (decode cX12_ofRope 110 = .ok (.iconst 0, 1)) ∧ (decode cX12_ofRope 111 = .ok (.goto 9, 3)) ∧ True := dkW [(94, .aload_n 0, 1), (95, .getfield 46, 3), (98, .iload_n 1, 1), (99, .iaload, 1), (100, .ireturn, 1), (101, .aload_n 0, 1), (102, .getfield 46, 3), (105, .iload_n 1, 1), (106, .iaload, 1), (107, .ifCond .ge 7, 3), (110, .iconst 0, 1), (111, .goto 9, 3)] 94 (by decide +kernel)
theorem dX12_ofRope_94 : decode cX12_ofRope 94 = .ok (.aload_n 0, 1) := dgX12_ofRope_94.1
theorem dX12_ofRope_95 : decode cX12_ofRope 95 = .ok (.getfield 46, 3) := dgX12_ofRope_94.2.1
theorem dX12_ofRope_98 : decode cX12_ofRope 98 = .ok (.iload_n 1, 1) := dgX12_ofRope_94.2.2.1
theorem dX12_ofRope_99 : decode cX12_ofRope 99 = .ok (.iaload, 1) := dgX12_ofRope_94.2.2.2.1
theorem dX12_ofRope_100 : decode cX12_ofRope 100 = .ok (.ireturn, 1) := dgX12_ofRope_94.2.2.2.2.1
theorem dX12_ofRope_101 : decode cX12_ofRope 101 = .ok (.aload_n 0, 1) := dgX12_ofRope_94.2.2.2.2.2.1
theorem dX12_ofRope_102 : decode cX12_ofRope 102 = .ok (.getfield 46, 3) := dgX12_ofRope_94.2.2.2.2.2.2.1
theorem dX12_ofRope_105 : decode cX12_ofRope 105 = .ok (.iload_n 1, 1) := dgX12_ofRope_94.2.2.2.2.2.2.2.1
theorem dX12_ofRope_106 : decode cX12_ofRope 106 = .ok (.iaload, 1) := dgX12_ofRope_94.2.2.2.2.2.2.2.2.1
theorem dX12_ofRope_107 : decode cX12_ofRope 107 = .ok (.ifCond .ge 7, 3) := dgX12_ofRope_94.2.2.2.2.2.2.2.2.2.1
theorem dX12_ofRope_110 : decode cX12_ofRope 110 = .ok (.iconst 0, 1) := dgX12_ofRope_94.2.2.2.2.2.2.2.2.2.2.1
theorem dX12_ofRope_111 : decode cX12_ofRope 111 = .ok (.goto 9, 3) := dgX12_ofRope_94.2.2.2.2.2.2.2.2.2.2.2.1
theorem dgX12_ofRope_114 : (decode cX12_ofRope 114 = .ok (.aload_n 0, 1)) ∧ (decode cX12_ofRope 115 = .ok (.getfield 49, 3)) ∧ (decode cX12_ofRope 118 = .ok (.iload_n 1, 1)) ∧ (decode cX12_ofRope 119 = .ok (.iaload, 1)) ∧ (decode cX12_ofRope 120 = .ok (.ireturn, 1)) ∧ (decode cX12_ofRope 121 = .ok (.aload_n 0, 1)) ∧ (decode cX12_ofRope 122 = .ok (.getfield 52, 3)) ∧ (decode cX12_ofRope 125 = .ok (.iload_n 1, 1)) ∧ (decode cX12_ofRope 126 = .ok (.baload, 1)) ∧ (decode cX12_ofRope 127 = .ok (.ifCond .eq 7, 3)) ∧ (decode cX12_ofRope 130 = .ok (.iconst 1, 1)) ∧ (decode cX12_ofRope 131 = .ok (.goto 4, 3)) ∧ True := dkW [(114, .aload_n 0, 1), (115, .getfield 49, 3), (118, .iload_n 1, 1), (119, .iaload, 1), (120, .ireturn, 1), (121, .aload_n 0, 1), (122, .getfield 52, 3), (125, .iload_n 1, 1), (126, .baload, 1), (127, .ifCond .eq 7, 3), (130, .iconst 1, 1), (131, .goto 4, 3)] 114 (by decide +kernel)
theorem dX12_ofRope_114 : decode cX12_ofRope 114 = .ok (.aload_n 0, 1) := dgX12_ofRope_114.1
theorem dX12_ofRope_115 : decode cX12_ofRope 115 = .ok (.getfield 49, 3) := dgX12_ofRope_114.2.1
theorem dX12_ofRope_118 : decode cX12_ofRope 118 = .ok (.iload_n 1, 1) := dgX12_ofRope_114.2.2.1
theorem dX12_ofRope_119 : decode cX12_ofRope 119 = .ok (.iaload, 1) := dgX12_ofRope_114.2.2.2.1
theorem dX12_ofRope_120 : decode cX12_ofRope 120 = .ok (.ireturn, 1) := dgX12_ofRope_114.2.2.2.2.1
theorem dX12_ofRope_121 : decode cX12_ofRope 121 = .ok (.aload_n 0, 1) := dgX12_ofRope_114.2.2.2.2.2.1
theorem dX12_ofRope_122 : decode cX12_ofRope 122 = .ok (.getfield 52, 3) := dgX12_ofRope_114.2.2.2.2.2.2.1
theorem dX12_ofRope_125 : decode cX12_ofRope 125 = .ok (.iload_n 1, 1) := dgX12_ofRope_114.2.2.2.2.2.2.2.1
theorem dX12_ofRope_126 : decode cX12_ofRope 126 = .ok (.baload, 1) := dgX12_ofRope_114.2.2.2.2.2.2.2.2.1
theorem dX12_ofRope_127 : decode cX12_ofRope 127 = .ok (.ifCond .eq 7, 3) := dgX12_ofRope_114.2.2.2.2.2.2.2.2.2.1
theorem dX12_ofRope_130 : decode cX12_ofRope 130 = .ok (.iconst 1, 1) := dgX12_ofRope_114.2.2.2.2.2.2.2.2.2.2.1
theorem dX12_ofRope_131 : decode cX12_ofRope 131 = .ok (.goto 4, 3) := dgX12_ofRope_114.2.2.2.2.2.2.2.2.2.2.2.1
theorem dgX12_ofRope_134 : (decode cX12_ofRope 134 = .ok (.iconst 0, 1)) ∧ (decode cX12_ofRope 135 = .ok (.ireturn, 1)) ∧ (decode cX12_ofRope 136 = .ok (.ldc 177, 2)) ∧ (decode cX12_ofRope 138 = .ok (.ireturn, 1)) ∧ True := dkW [(134, .iconst 0, 1), (135, .ireturn, 1), (136, .ldc 177, 2), (138, .ireturn, 1)] 134 (by decide +kernel)
theorem dX12_ofRope_134 : decode cX12_ofRope 134 = .ok (.iconst 0, 1) := dgX12_ofRope_134.1
theorem dX12_ofRope_135 : decode cX12_ofRope 135 = .ok (.ireturn, 1) := dgX12_ofRope_134.2.1
theorem dX12_ofRope_136 : decode cX12_ofRope 136 = .ok (.ldc 177, 2) := dgX12_ofRope_134.2.2.1
theorem dX12_ofRope_138 : decode cX12_ofRope 138 = .ok (.ireturn, 1) := dgX12_ofRope_134.2.2.2.1
abbrev rmX12_ofRope : Room := { frames := 2, cells := 0, slots := 0, locals := 43 }
noncomputable def fX12_ofRope_b120 (N : Nat)  (t : Nat) (h : Hs) (u0 : Int32) : Option (Int32 × Hs) :=
  some (u0, h)
set_option maxHeartbeats 4000000 in
set_option maxRecDepth 20000 in
theorem wX12_ofRope_b120 {p : Program} {l : Launch} {e : Env} {s : State} {m : MethodId} {args : Array Value} {below : List Frame} {meth : Method} {c : Code} {G : Gl} {N : Nat} {h : Hs} {r : Int32 × Hs}  {t : Nat} {u0 : Int32} (C : Cx p s m args meth c cX12_ofRope RX12 3 G) (hret : meth.sig.returnType = (some .int))  (hf : fX12_ofRope_b120 N  t h u0 = some r) : V p l e rmX12_ofRope s m args below meth c G 3 (MQ below (QcG G (some (.inl r.1)) r.2) args s rmX12_ofRope.cells rmX12_ofRope.slots (AG G)) h 0 0 120 [some (.inr (some t)), none, none] [.inl u0] := by
  unfold fX12_ofRope_b120 at hf
  exact r_iretF C dX12_ofRope_120 hret hf (by decide) (by decide)
noncomputable def fX12_ofRope_b135 (N : Nat)  (t : Nat) (h : Hs) (u0 : Int32) : Option (Int32 × Hs) :=
  some (u0, h)
set_option maxHeartbeats 4000000 in
set_option maxRecDepth 20000 in
theorem wX12_ofRope_b135 {p : Program} {l : Launch} {e : Env} {s : State} {m : MethodId} {args : Array Value} {below : List Frame} {meth : Method} {c : Code} {G : Gl} {N : Nat} {h : Hs} {r : Int32 × Hs}  {t : Nat} {u0 : Int32} (C : Cx p s m args meth c cX12_ofRope RX12 3 G) (hret : meth.sig.returnType = (some .int))  (hf : fX12_ofRope_b135 N  t h u0 = some r) : V p l e rmX12_ofRope s m args below meth c G 3 (MQ below (QcG G (some (.inl r.1)) r.2) args s rmX12_ofRope.cells rmX12_ofRope.slots (AG G)) h 0 0 135 [some (.inr (some t)), none, none] [.inl u0] := by
  unfold fX12_ofRope_b135 at hf
  exact r_iretF C dX12_ofRope_135 hret hf (by decide) (by decide)
noncomputable def fX12_ofRope (N : Nat) (h : Hs) (t : Nat) (p1 : Int32) (p2 : Int32) : Option (Int32 × Hs) :=
  (rc 12 h (some t)).bind fun a2 =>
  (fX12_isRope N h a2 p1).bind fun r1 =>
  if r1.1 = 0 then (
  some ((-2000000000), r1.2))
  else if p2 = 0 then (
  (oR 12 12 r1.2 (some t)).bind fun o3 =>
  (lA 20 r1.2 o3 p1).bind fun v4 =>
  some (v4, r1.2))
  else if p2 = 1 then (
  (oR 12 13 r1.2 (some t)).bind fun o5 =>
  (lA 20 r1.2 o5 p1).bind fun v6 =>
  some (v6, r1.2))
  else if p2 = 2 then (
  (oR 12 14 r1.2 (some t)).bind fun o7 =>
  (lA 20 r1.2 o7 p1).bind fun v8 =>
  some (v8, r1.2))
  else if p2 = 3 then (
  (oR 12 15 r1.2 (some t)).bind fun o9 =>
  (lA 20 r1.2 o9 p1).bind fun v10 =>
  some (v10, r1.2))
  else if p2 = 4 then (
  (rc 12 r1.2 (some t)).bind fun a12 =>
  (fX12_load N r1.2 a12 p1).bind fun r11 =>
  some (r11.1, r11.2))
  else if p2 = 5 then (
  (oR 12 16 r1.2 (some t)).bind fun o13 =>
  (lA 20 r1.2 o13 p1).bind fun v14 =>
  some (v14, r1.2))
  else if p2 = 6 then (
  (oR 12 16 r1.2 (some t)).bind fun o15 =>
  (lA 20 r1.2 o15 p1).bind fun v16 =>
  if 0 ≤ v16 then (
  (oR 12 17 r1.2 (some t)).bind fun o17 =>
  (lA 20 r1.2 o17 p1).bind fun v18 =>
  fX12_ofRope_b120 N t r1.2 v18)
  else fX12_ofRope_b120 N t r1.2 0)
  else if p2 = 7 then (
  (oR 12 18 r1.2 (some t)).bind fun o19 =>
  (lA 21 r1.2 o19 p1).bind fun v20 =>
  if v20 = 0 then (
  fX12_ofRope_b135 N t r1.2 0)
  else fX12_ofRope_b135 N t r1.2 1)
  else some ((-2000000000), r1.2)
set_option maxHeartbeats 4000000 in
set_option maxRecDepth 20000 in
theorem kX12_ofRope (l : Launch) (G : Gl) {N : Nat} {h : Hs} {t : Nat} {p1 : Int32} {p2 : Int32} {r : Int32 × Hs} (hf : fX12_ofRope N h t p1 p2 = some r) : CT l G yX12_ofRope cX12_ofRope 3 (some .int) rmX12_ofRope [.inr (some t), .inl p1, .inl p2] h (some (.inl r.1)) r.2 := by
  refine mk_CT (by decide) (Nat.le_of_ble_eq_true rfl) ?_
  intro p e s m args below meth c C hret hin
  unfold fX12_ofRope at hf
  refine r_aload_n C dX12_ofRope_0 rfl ?_
  refine r_iload_n C dX12_ofRope_1 rfl ?_
  obtain ⟨a2, ea2, hf⟩ := bS hf
  obtain ⟨r1, er1, hf⟩ := bS hf
  refine r_invV1 (As := [.inl p1]) (ci := 12) C dX12_ofRope_2 mcX12_isRope wd_1216 wd_1218 wp_33 rfl rfl (by decide) ⟨by decide, by decide⟩ ⟨by decide, by decide⟩ rfl (Nat.le_of_ble_eq_true rfl) ea2 (kX12_isRope l G er1) ?_
  refine r_if_ne (tgt := 11) C dX12_ofRope_5 (by decide) (fun hc => ?_) (fun hc => ?_)
  · have hf := ifF hf hc
    refine r_iload_n C dX12_ofRope_11 rfl ?_
    by_cases k0 : p2 = 0
    · have hf := ifT hf k0
      refine r_tabIn (tgt := 60) (off := 48) C dX12_ofRope_12 (by rw [k0]; decide) (by rw [k0]; decide) (by rw [k0]; rfl) (by decide) ?_
      refine r_aload_n C dX12_ofRope_60 rfl ?_
      obtain ⟨o3, eo3, hf⟩ := bS hf
      refine r_getR C dX12_ofRope_61 fl_X12_34 rfl eo3 ?_
      refine r_iload_n C dX12_ofRope_64 rfl ?_
      obtain ⟨v4, ev4, hf⟩ := bS hf
      refine r_iald C dX12_ofRope_65 ev4 ?_
      exact r_iretF C dX12_ofRope_66 hret hf (by decide) (by decide)
    · have hf := ifF hf k0
      by_cases k1 : p2 = 1
      · have hf := ifT hf k1
        refine r_tabIn (tgt := 67) (off := 55) C dX12_ofRope_12 (by rw [k1]; decide) (by rw [k1]; decide) (by rw [k1]; rfl) (by decide) ?_
        refine r_aload_n C dX12_ofRope_67 rfl ?_
        obtain ⟨o5, eo5, hf⟩ := bS hf
        refine r_getR C dX12_ofRope_68 fl_X12_37 rfl eo5 ?_
        refine r_iload_n C dX12_ofRope_71 rfl ?_
        obtain ⟨v6, ev6, hf⟩ := bS hf
        refine r_iald C dX12_ofRope_72 ev6 ?_
        exact r_iretF C dX12_ofRope_73 hret hf (by decide) (by decide)
      · have hf := ifF hf k1
        by_cases k2 : p2 = 2
        · have hf := ifT hf k2
          refine r_tabIn (tgt := 74) (off := 62) C dX12_ofRope_12 (by rw [k2]; decide) (by rw [k2]; decide) (by rw [k2]; rfl) (by decide) ?_
          refine r_aload_n C dX12_ofRope_74 rfl ?_
          obtain ⟨o7, eo7, hf⟩ := bS hf
          refine r_getR C dX12_ofRope_75 fl_X12_40 rfl eo7 ?_
          refine r_iload_n C dX12_ofRope_78 rfl ?_
          obtain ⟨v8, ev8, hf⟩ := bS hf
          refine r_iald C dX12_ofRope_79 ev8 ?_
          exact r_iretF C dX12_ofRope_80 hret hf (by decide) (by decide)
        · have hf := ifF hf k2
          by_cases k3 : p2 = 3
          · have hf := ifT hf k3
            refine r_tabIn (tgt := 81) (off := 69) C dX12_ofRope_12 (by rw [k3]; decide) (by rw [k3]; decide) (by rw [k3]; rfl) (by decide) ?_
            refine r_aload_n C dX12_ofRope_81 rfl ?_
            obtain ⟨o9, eo9, hf⟩ := bS hf
            refine r_getR C dX12_ofRope_82 fl_X12_43 rfl eo9 ?_
            refine r_iload_n C dX12_ofRope_85 rfl ?_
            obtain ⟨v10, ev10, hf⟩ := bS hf
            refine r_iald C dX12_ofRope_86 ev10 ?_
            exact r_iretF C dX12_ofRope_87 hret hf (by decide) (by decide)
          · have hf := ifF hf k3
            by_cases k4 : p2 = 4
            · have hf := ifT hf k4
              refine r_tabIn (tgt := 88) (off := 76) C dX12_ofRope_12 (by rw [k4]; decide) (by rw [k4]; decide) (by rw [k4]; rfl) (by decide) ?_
              refine r_aload_n C dX12_ofRope_88 rfl ?_
              refine r_iload_n C dX12_ofRope_89 rfl ?_
              obtain ⟨a12, ea12, hf⟩ := bS hf
              obtain ⟨r11, er11, hf⟩ := bS hf
              refine r_invV1 (As := [.inl p1]) (ci := 12) C dX12_ofRope_90 mcX12_load wd_1221 wd_1223 wp_34 rfl rfl (by decide) ⟨by decide, by decide⟩ ⟨by decide, by decide⟩ rfl (Nat.le_of_ble_eq_true rfl) ea12 (kX12_load l G er11) ?_
              exact r_iretF C dX12_ofRope_93 hret hf (by decide) (by decide)
            · have hf := ifF hf k4
              by_cases k5 : p2 = 5
              · have hf := ifT hf k5
                refine r_tabIn (tgt := 94) (off := 82) C dX12_ofRope_12 (by rw [k5]; decide) (by rw [k5]; decide) (by rw [k5]; rfl) (by decide) ?_
                refine r_aload_n C dX12_ofRope_94 rfl ?_
                obtain ⟨o13, eo13, hf⟩ := bS hf
                refine r_getR C dX12_ofRope_95 fl_X12_46 rfl eo13 ?_
                refine r_iload_n C dX12_ofRope_98 rfl ?_
                obtain ⟨v14, ev14, hf⟩ := bS hf
                refine r_iald C dX12_ofRope_99 ev14 ?_
                exact r_iretF C dX12_ofRope_100 hret hf (by decide) (by decide)
              · have hf := ifF hf k5
                by_cases k6 : p2 = 6
                · have hf := ifT hf k6
                  refine r_tabIn (tgt := 101) (off := 89) C dX12_ofRope_12 (by rw [k6]; decide) (by rw [k6]; decide) (by rw [k6]; rfl) (by decide) ?_
                  refine r_aload_n C dX12_ofRope_101 rfl ?_
                  obtain ⟨o15, eo15, hf⟩ := bS hf
                  refine r_getR C dX12_ofRope_102 fl_X12_46 rfl eo15 ?_
                  refine r_iload_n C dX12_ofRope_105 rfl ?_
                  obtain ⟨v16, ev16, hf⟩ := bS hf
                  refine r_iald C dX12_ofRope_106 ev16 ?_
                  refine r_if_ge (tgt := 114) C dX12_ofRope_107 (by decide) (fun hc => ?_) (fun hc => ?_)
                  · have hf := ifT hf hc
                    refine r_aload_n C dX12_ofRope_114 rfl ?_
                    obtain ⟨o17, eo17, hf⟩ := bS hf
                    refine r_getR C dX12_ofRope_115 fl_X12_49 rfl eo17 ?_
                    refine r_iload_n C dX12_ofRope_118 rfl ?_
                    obtain ⟨v18, ev18, hf⟩ := bS hf
                    refine r_iald C dX12_ofRope_119 ev18 ?_
                    exact V.sub (wX12_ofRope_b120 C hret hf) (LW_s rfl (LW_n (LW_n (LW_e))))
                  · have hf := ifF hf hc
                    refine r_iconst (v := 0) C dX12_ofRope_110 (by decide) ?_
                    refine r_goto (tgt := 120) C dX12_ofRope_111 (by decide) ?_
                    exact V.sub (wX12_ofRope_b120 C hret hf) (LW_s rfl (LW_n (LW_n (LW_e))))
                · have hf := ifF hf k6
                  by_cases k7 : p2 = 7
                  · have hf := ifT hf k7
                    refine r_tabIn (tgt := 121) (off := 109) C dX12_ofRope_12 (by rw [k7]; decide) (by rw [k7]; decide) (by rw [k7]; rfl) (by decide) ?_
                    refine r_aload_n C dX12_ofRope_121 rfl ?_
                    obtain ⟨o19, eo19, hf⟩ := bS hf
                    refine r_getR C dX12_ofRope_122 fl_X12_52 rfl eo19 ?_
                    refine r_iload_n C dX12_ofRope_125 rfl ?_
                    obtain ⟨v20, ev20, hf⟩ := bS hf
                    refine r_zald C dX12_ofRope_126 ev20 ?_
                    refine r_if_eq (tgt := 134) C dX12_ofRope_127 (by decide) (fun hc => ?_) (fun hc => ?_)
                    · have hf := ifT hf hc
                      refine r_iconst (v := 0) C dX12_ofRope_134 (by decide) ?_
                      exact V.sub (wX12_ofRope_b135 C hret hf) (LW_s rfl (LW_n (LW_n (LW_e))))
                    · have hf := ifF hf hc
                      refine r_iconst (v := 1) C dX12_ofRope_130 (by decide) ?_
                      refine r_goto (tgt := 135) C dX12_ofRope_131 (by decide) ?_
                      exact V.sub (wX12_ofRope_b135 C hret hf) (LW_s rfl (LW_n (LW_n (LW_e))))
                  · have hf := ifF hf k7
                    refine r_tabOut (tgt := 136) C dX12_ofRope_12 (sw_out (lo := 0) (hi := 7) [0, 1, 2, 3, 4, 5, 6, 7] (by decide) (List.forall_mem_cons.mpr ⟨k0, List.forall_mem_cons.mpr ⟨k1, List.forall_mem_cons.mpr ⟨k2, List.forall_mem_cons.mpr ⟨k3, List.forall_mem_cons.mpr ⟨k4, List.forall_mem_cons.mpr ⟨k5, List.forall_mem_cons.mpr ⟨k6, List.forall_mem_cons.mpr ⟨k7, fun _ q => absurd q List.not_mem_nil⟩⟩⟩⟩⟩⟩⟩⟩)) (by decide) ?_
                    refine r_ldc C dX12_ofRope_136 wd_1220 ?_
                    exact r_iretF C dX12_ofRope_138 hret hf (by decide) (by decide)
  · have hf := ifT hf hc
    refine r_ldc C dX12_ofRope_8 wd_1220 ?_
    exact r_iretF C dX12_ofRope_10 hret hf (by decide) (by decide)

theorem dgX12_tieNow_0 : (decode cX12_tieNow 0 = .ok (.aload_n 0, 1)) ∧ (decode cX12_tieNow 1 = .ok (.iload_n 1, 1)) ∧ (decode cX12_tieNow 2 = .ok (.invokevirtual 174, 3)) ∧ (decode cX12_tieNow 5 = .ok (.ifCond .eq 11, 3)) ∧ (decode cX12_tieNow 8 = .ok (.aload_n 0, 1)) ∧ (decode cX12_tieNow 9 = .ok (.iload_n 2, 1)) ∧ (decode cX12_tieNow 10 = .ok (.invokevirtual 181, 3)) ∧ (decode cX12_tieNow 13 = .ok (.ifCond .ne 5, 3)) ∧ True := dkW [(0, .aload_n 0, 1), (1, .iload_n 1, 1), (2, .invokevirtual 174, 3), (5, .ifCond .eq 11, 3), (8, .aload_n 0, 1), (9, .iload_n 2, 1), (10, .invokevirtual 181, 3), (13, .ifCond .ne 5, 3)] 0 (by decide +kernel)
theorem dX12_tieNow_0 : decode cX12_tieNow 0 = .ok (.aload_n 0, 1) := dgX12_tieNow_0.1
theorem dX12_tieNow_1 : decode cX12_tieNow 1 = .ok (.iload_n 1, 1) := dgX12_tieNow_0.2.1
theorem dX12_tieNow_2 : decode cX12_tieNow 2 = .ok (.invokevirtual 174, 3) := dgX12_tieNow_0.2.2.1
theorem dX12_tieNow_5 : decode cX12_tieNow 5 = .ok (.ifCond .eq 11, 3) := dgX12_tieNow_0.2.2.2.1
theorem dX12_tieNow_8 : decode cX12_tieNow 8 = .ok (.aload_n 0, 1) := dgX12_tieNow_0.2.2.2.2.1
theorem dX12_tieNow_9 : decode cX12_tieNow 9 = .ok (.iload_n 2, 1) := dgX12_tieNow_0.2.2.2.2.2.1
theorem dX12_tieNow_10 : decode cX12_tieNow 10 = .ok (.invokevirtual 181, 3) := dgX12_tieNow_0.2.2.2.2.2.2.1
theorem dX12_tieNow_13 : decode cX12_tieNow 13 = .ok (.ifCond .ne 5, 3) := dgX12_tieNow_0.2.2.2.2.2.2.2.1
theorem dX12_tieNow_16 : decode cX12_tieNow 16 = .ok (.iconst (-1), 1) := by decide +kernel
theorem dgX12_tieNow_17 : (decode cX12_tieNow 17 = .ok (.ireturn, 1)) ∧ (decode cX12_tieNow 18 = .ok (.aload_n 0, 1)) ∧ (decode cX12_tieNow 19 = .ok (.getfield 46, 3)) ∧ (decode cX12_tieNow 22 = .ok (.iload_n 1, 1)) ∧ (decode cX12_tieNow 23 = .ok (.iaload, 1)) ∧ (decode cX12_tieNow 24 = .ok (.ifCond .ge 39, 3)) ∧ (decode cX12_tieNow 27 = .ok (.aload_n 0, 1)) ∧ (decode cX12_tieNow 28 = .ok (.getfield 52, 3)) ∧ (decode cX12_tieNow 31 = .ok (.iload_n 1, 1)) ∧ (decode cX12_tieNow 32 = .ok (.baload, 1)) ∧ (decode cX12_tieNow 33 = .ok (.ifCond .ne 30, 3)) ∧ (decode cX12_tieNow 36 = .ok (.aload_n 0, 1)) ∧ True := dkW [(17, .ireturn, 1), (18, .aload_n 0, 1), (19, .getfield 46, 3), (22, .iload_n 1, 1), (23, .iaload, 1), (24, .ifCond .ge 39, 3), (27, .aload_n 0, 1), (28, .getfield 52, 3), (31, .iload_n 1, 1), (32, .baload, 1), (33, .ifCond .ne 30, 3), (36, .aload_n 0, 1)] 17 (by decide +kernel)
theorem dX12_tieNow_17 : decode cX12_tieNow 17 = .ok (.ireturn, 1) := dgX12_tieNow_17.1
theorem dX12_tieNow_18 : decode cX12_tieNow 18 = .ok (.aload_n 0, 1) := dgX12_tieNow_17.2.1
theorem dX12_tieNow_19 : decode cX12_tieNow 19 = .ok (.getfield 46, 3) := dgX12_tieNow_17.2.2.1
theorem dX12_tieNow_22 : decode cX12_tieNow 22 = .ok (.iload_n 1, 1) := dgX12_tieNow_17.2.2.2.1
theorem dX12_tieNow_23 : decode cX12_tieNow 23 = .ok (.iaload, 1) := dgX12_tieNow_17.2.2.2.2.1
theorem dX12_tieNow_24 : decode cX12_tieNow 24 = .ok (.ifCond .ge 39, 3) := dgX12_tieNow_17.2.2.2.2.2.1
theorem dX12_tieNow_27 : decode cX12_tieNow 27 = .ok (.aload_n 0, 1) := dgX12_tieNow_17.2.2.2.2.2.2.1
theorem dX12_tieNow_28 : decode cX12_tieNow 28 = .ok (.getfield 52, 3) := dgX12_tieNow_17.2.2.2.2.2.2.2.1
theorem dX12_tieNow_31 : decode cX12_tieNow 31 = .ok (.iload_n 1, 1) := dgX12_tieNow_17.2.2.2.2.2.2.2.2.1
theorem dX12_tieNow_32 : decode cX12_tieNow 32 = .ok (.baload, 1) := dgX12_tieNow_17.2.2.2.2.2.2.2.2.2.1
theorem dX12_tieNow_33 : decode cX12_tieNow 33 = .ok (.ifCond .ne 30, 3) := dgX12_tieNow_17.2.2.2.2.2.2.2.2.2.2.1
theorem dX12_tieNow_36 : decode cX12_tieNow 36 = .ok (.aload_n 0, 1) := dgX12_tieNow_17.2.2.2.2.2.2.2.2.2.2.2.1
theorem dgX12_tieNow_37 : (decode cX12_tieNow 37 = .ok (.aload_n 0, 1)) ∧ (decode cX12_tieNow 38 = .ok (.getfield 34, 3)) ∧ (decode cX12_tieNow 41 = .ok (.iload_n 1, 1)) ∧ (decode cX12_tieNow 42 = .ok (.iaload, 1)) ∧ (decode cX12_tieNow 43 = .ok (.invokevirtual 170, 3)) ∧ (decode cX12_tieNow 46 = .ok (.ifCond .ge 17, 3)) ∧ (decode cX12_tieNow 49 = .ok (.aload_n 0, 1)) ∧ (decode cX12_tieNow 50 = .ok (.getfield 43, 3)) ∧ (decode cX12_tieNow 53 = .ok (.iload_n 1, 1)) ∧ (decode cX12_tieNow 54 = .ok (.iaload, 1)) ∧ (decode cX12_tieNow 55 = .ok (.aload_n 0, 1)) ∧ (decode cX12_tieNow 56 = .ok (.iload_n 1, 1)) ∧ True := dkW [(37, .aload_n 0, 1), (38, .getfield 34, 3), (41, .iload_n 1, 1), (42, .iaload, 1), (43, .invokevirtual 170, 3), (46, .ifCond .ge 17, 3), (49, .aload_n 0, 1), (50, .getfield 43, 3), (53, .iload_n 1, 1), (54, .iaload, 1), (55, .aload_n 0, 1), (56, .iload_n 1, 1)] 37 (by decide +kernel)
theorem dX12_tieNow_37 : decode cX12_tieNow 37 = .ok (.aload_n 0, 1) := dgX12_tieNow_37.1
theorem dX12_tieNow_38 : decode cX12_tieNow 38 = .ok (.getfield 34, 3) := dgX12_tieNow_37.2.1
theorem dX12_tieNow_41 : decode cX12_tieNow 41 = .ok (.iload_n 1, 1) := dgX12_tieNow_37.2.2.1
theorem dX12_tieNow_42 : decode cX12_tieNow 42 = .ok (.iaload, 1) := dgX12_tieNow_37.2.2.2.1
theorem dX12_tieNow_43 : decode cX12_tieNow 43 = .ok (.invokevirtual 170, 3) := dgX12_tieNow_37.2.2.2.2.1
theorem dX12_tieNow_46 : decode cX12_tieNow 46 = .ok (.ifCond .ge 17, 3) := dgX12_tieNow_37.2.2.2.2.2.1
theorem dX12_tieNow_49 : decode cX12_tieNow 49 = .ok (.aload_n 0, 1) := dgX12_tieNow_37.2.2.2.2.2.2.1
theorem dX12_tieNow_50 : decode cX12_tieNow 50 = .ok (.getfield 43, 3) := dgX12_tieNow_37.2.2.2.2.2.2.2.1
theorem dX12_tieNow_53 : decode cX12_tieNow 53 = .ok (.iload_n 1, 1) := dgX12_tieNow_37.2.2.2.2.2.2.2.2.1
theorem dX12_tieNow_54 : decode cX12_tieNow 54 = .ok (.iaload, 1) := dgX12_tieNow_37.2.2.2.2.2.2.2.2.2.1
theorem dX12_tieNow_55 : decode cX12_tieNow 55 = .ok (.aload_n 0, 1) := dgX12_tieNow_37.2.2.2.2.2.2.2.2.2.2.1
theorem dX12_tieNow_56 : decode cX12_tieNow 56 = .ok (.iload_n 1, 1) := dgX12_tieNow_37.2.2.2.2.2.2.2.2.2.2.2.1
theorem dgX12_tieNow_57 : (decode cX12_tieNow 57 = .ok (.invokevirtual 178, 3)) ∧ (decode cX12_tieNow 60 = .ok (.if_icmp .ge 6, 3)) ∧ (decode cX12_tieNow 63 = .ok (.bipush (-2), 2)) ∧ (decode cX12_tieNow 65 = .ok (.ireturn, 1)) ∧ (decode cX12_tieNow 66 = .ok (.aload_n 0, 1)) ∧ (decode cX12_tieNow 67 = .ok (.getfield 46, 3)) ∧ (decode cX12_tieNow 70 = .ok (.iload_n 1, 1)) ∧ (decode cX12_tieNow 71 = .ok (.iload_n 2, 1)) ∧ (decode cX12_tieNow 72 = .ok (.iastore, 1)) ∧ (decode cX12_tieNow 73 = .ok (.aload_n 0, 1)) ∧ (decode cX12_tieNow 74 = .ok (.getfield 49, 3)) ∧ (decode cX12_tieNow 77 = .ok (.iload_n 1, 1)) ∧ True := dkW [(57, .invokevirtual 178, 3), (60, .if_icmp .ge 6, 3), (63, .bipush (-2), 2), (65, .ireturn, 1), (66, .aload_n 0, 1), (67, .getfield 46, 3), (70, .iload_n 1, 1), (71, .iload_n 2, 1), (72, .iastore, 1), (73, .aload_n 0, 1), (74, .getfield 49, 3), (77, .iload_n 1, 1)] 57 (by decide +kernel)
theorem dX12_tieNow_57 : decode cX12_tieNow 57 = .ok (.invokevirtual 178, 3) := dgX12_tieNow_57.1
theorem dX12_tieNow_60 : decode cX12_tieNow 60 = .ok (.if_icmp .ge 6, 3) := dgX12_tieNow_57.2.1
theorem dX12_tieNow_63 : decode cX12_tieNow 63 = .ok (.bipush (-2), 2) := dgX12_tieNow_57.2.2.1
theorem dX12_tieNow_65 : decode cX12_tieNow 65 = .ok (.ireturn, 1) := dgX12_tieNow_57.2.2.2.1
theorem dX12_tieNow_66 : decode cX12_tieNow 66 = .ok (.aload_n 0, 1) := dgX12_tieNow_57.2.2.2.2.1
theorem dX12_tieNow_67 : decode cX12_tieNow 67 = .ok (.getfield 46, 3) := dgX12_tieNow_57.2.2.2.2.2.1
theorem dX12_tieNow_70 : decode cX12_tieNow 70 = .ok (.iload_n 1, 1) := dgX12_tieNow_57.2.2.2.2.2.2.1
theorem dX12_tieNow_71 : decode cX12_tieNow 71 = .ok (.iload_n 2, 1) := dgX12_tieNow_57.2.2.2.2.2.2.2.1
theorem dX12_tieNow_72 : decode cX12_tieNow 72 = .ok (.iastore, 1) := dgX12_tieNow_57.2.2.2.2.2.2.2.2.1
theorem dX12_tieNow_73 : decode cX12_tieNow 73 = .ok (.aload_n 0, 1) := dgX12_tieNow_57.2.2.2.2.2.2.2.2.2.1
theorem dX12_tieNow_74 : decode cX12_tieNow 74 = .ok (.getfield 49, 3) := dgX12_tieNow_57.2.2.2.2.2.2.2.2.2.2.1
theorem dX12_tieNow_77 : decode cX12_tieNow 77 = .ok (.iload_n 1, 1) := dgX12_tieNow_57.2.2.2.2.2.2.2.2.2.2.2.1
theorem dgX12_tieNow_78 : (decode cX12_tieNow 78 = .ok (.iconst 0, 1)) ∧ (decode cX12_tieNow 79 = .ok (.iastore, 1)) ∧ (decode cX12_tieNow 80 = .ok (.aload_n 0, 1)) ∧ (decode cX12_tieNow 81 = .ok (.getfield 28, 3)) ∧ (decode cX12_tieNow 84 = .ok (.aload_n 0, 1)) ∧ (decode cX12_tieNow 85 = .ok (.getfield 34, 3)) ∧ (decode cX12_tieNow 88 = .ok (.iload_n 1, 1)) ∧ (decode cX12_tieNow 89 = .ok (.iaload, 1)) ∧ (decode cX12_tieNow 90 = .ok (.aload_n 0, 1)) ∧ (decode cX12_tieNow 91 = .ok (.getfield 19, 3)) ∧ (decode cX12_tieNow 94 = .ok (.aload_n 0, 1)) ∧ (decode cX12_tieNow 95 = .ok (.getfield 34, 3)) ∧ True := dkW [(78, .iconst 0, 1), (79, .iastore, 1), (80, .aload_n 0, 1), (81, .getfield 28, 3), (84, .aload_n 0, 1), (85, .getfield 34, 3), (88, .iload_n 1, 1), (89, .iaload, 1), (90, .aload_n 0, 1), (91, .getfield 19, 3), (94, .aload_n 0, 1), (95, .getfield 34, 3)] 78 (by decide +kernel)
theorem dX12_tieNow_78 : decode cX12_tieNow 78 = .ok (.iconst 0, 1) := dgX12_tieNow_78.1
theorem dX12_tieNow_79 : decode cX12_tieNow 79 = .ok (.iastore, 1) := dgX12_tieNow_78.2.1
theorem dX12_tieNow_80 : decode cX12_tieNow 80 = .ok (.aload_n 0, 1) := dgX12_tieNow_78.2.2.1
theorem dX12_tieNow_81 : decode cX12_tieNow 81 = .ok (.getfield 28, 3) := dgX12_tieNow_78.2.2.2.1
theorem dX12_tieNow_84 : decode cX12_tieNow 84 = .ok (.aload_n 0, 1) := dgX12_tieNow_78.2.2.2.2.1
theorem dX12_tieNow_85 : decode cX12_tieNow 85 = .ok (.getfield 34, 3) := dgX12_tieNow_78.2.2.2.2.2.1
theorem dX12_tieNow_88 : decode cX12_tieNow 88 = .ok (.iload_n 1, 1) := dgX12_tieNow_78.2.2.2.2.2.2.1
theorem dX12_tieNow_89 : decode cX12_tieNow 89 = .ok (.iaload, 1) := dgX12_tieNow_78.2.2.2.2.2.2.2.1
theorem dX12_tieNow_90 : decode cX12_tieNow 90 = .ok (.aload_n 0, 1) := dgX12_tieNow_78.2.2.2.2.2.2.2.2.1
theorem dX12_tieNow_91 : decode cX12_tieNow 91 = .ok (.getfield 19, 3) := dgX12_tieNow_78.2.2.2.2.2.2.2.2.2.1
theorem dX12_tieNow_94 : decode cX12_tieNow 94 = .ok (.aload_n 0, 1) := dgX12_tieNow_78.2.2.2.2.2.2.2.2.2.2.1
theorem dX12_tieNow_95 : decode cX12_tieNow 95 = .ok (.getfield 34, 3) := dgX12_tieNow_78.2.2.2.2.2.2.2.2.2.2.2.1
theorem dgX12_tieNow_98 : (decode cX12_tieNow 98 = .ok (.iload_n 1, 1)) ∧ (decode cX12_tieNow 99 = .ok (.iaload, 1)) ∧ (decode cX12_tieNow 100 = .ok (.iaload, 1)) ∧ (decode cX12_tieNow 101 = .ok (.iastore, 1)) ∧ (decode cX12_tieNow 102 = .ok (.aload_n 0, 1)) ∧ (decode cX12_tieNow 103 = .ok (.getfield 43, 3)) ∧ (decode cX12_tieNow 106 = .ok (.iload_n 1, 1)) ∧ (decode cX12_tieNow 107 = .ok (.iaload, 1)) ∧ (decode cX12_tieNow 108 = .ok (.aload_n 0, 1)) ∧ (decode cX12_tieNow 109 = .ok (.iload_n 1, 1)) ∧ (decode cX12_tieNow 110 = .ok (.invokevirtual 178, 3)) ∧ (decode cX12_tieNow 113 = .ok (.isub, 1)) ∧ True := dkW [(98, .iload_n 1, 1), (99, .iaload, 1), (100, .iaload, 1), (101, .iastore, 1), (102, .aload_n 0, 1), (103, .getfield 43, 3), (106, .iload_n 1, 1), (107, .iaload, 1), (108, .aload_n 0, 1), (109, .iload_n 1, 1), (110, .invokevirtual 178, 3), (113, .isub, 1)] 98 (by decide +kernel)
theorem dX12_tieNow_98 : decode cX12_tieNow 98 = .ok (.iload_n 1, 1) := dgX12_tieNow_98.1
theorem dX12_tieNow_99 : decode cX12_tieNow 99 = .ok (.iaload, 1) := dgX12_tieNow_98.2.1
theorem dX12_tieNow_100 : decode cX12_tieNow 100 = .ok (.iaload, 1) := dgX12_tieNow_98.2.2.1
theorem dX12_tieNow_101 : decode cX12_tieNow 101 = .ok (.iastore, 1) := dgX12_tieNow_98.2.2.2.1
theorem dX12_tieNow_102 : decode cX12_tieNow 102 = .ok (.aload_n 0, 1) := dgX12_tieNow_98.2.2.2.2.1
theorem dX12_tieNow_103 : decode cX12_tieNow 103 = .ok (.getfield 43, 3) := dgX12_tieNow_98.2.2.2.2.2.1
theorem dX12_tieNow_106 : decode cX12_tieNow 106 = .ok (.iload_n 1, 1) := dgX12_tieNow_98.2.2.2.2.2.2.1
theorem dX12_tieNow_107 : decode cX12_tieNow 107 = .ok (.iaload, 1) := dgX12_tieNow_98.2.2.2.2.2.2.2.1
theorem dX12_tieNow_108 : decode cX12_tieNow 108 = .ok (.aload_n 0, 1) := dgX12_tieNow_98.2.2.2.2.2.2.2.2.1
theorem dX12_tieNow_109 : decode cX12_tieNow 109 = .ok (.iload_n 1, 1) := dgX12_tieNow_98.2.2.2.2.2.2.2.2.2.1
theorem dX12_tieNow_110 : decode cX12_tieNow 110 = .ok (.invokevirtual 178, 3) := dgX12_tieNow_98.2.2.2.2.2.2.2.2.2.2.1
theorem dX12_tieNow_113 : decode cX12_tieNow 113 = .ok (.isub, 1) := dgX12_tieNow_98.2.2.2.2.2.2.2.2.2.2.2.1
theorem dgX12_tieNow_114 : (decode cX12_tieNow 114 = .ok (.ireturn, 1)) ∧ True := dkW [(114, .ireturn, 1)] 114 (by decide +kernel)
theorem dX12_tieNow_114 : decode cX12_tieNow 114 = .ok (.ireturn, 1) := dgX12_tieNow_114.1
abbrev rmX12_tieNow : Room := { frames := 2, cells := 0, slots := 0, locals := 43 }
noncomputable def fX12_tieNow_b16 (N : Nat)  (t : Nat) (h : Hs)  : Option (Int32 × Hs) :=
  some ((-1), h)
set_option maxHeartbeats 4000000 in
set_option maxRecDepth 20000 in
theorem wX12_tieNow_b16 {p : Program} {l : Launch} {e : Env} {s : State} {m : MethodId} {args : Array Value} {below : List Frame} {meth : Method} {c : Code} {G : Gl} {N : Nat} {h : Hs} {r : Int32 × Hs}  {t : Nat}  (C : Cx p s m args meth c cX12_tieNow RX12 3 G) (hret : meth.sig.returnType = (some .int))  (hf : fX12_tieNow_b16 N  t h  = some r) : V p l e rmX12_tieNow s m args below meth c G 3 (MQ below (QcG G (some (.inl r.1)) r.2) args s rmX12_tieNow.cells rmX12_tieNow.slots (AG G)) h 0 0 16 [some (.inr (some t)), none, none] [] := by
  unfold fX12_tieNow_b16 at hf
  refine r_iconst (v := -1) C dX12_tieNow_16 (by decide) ?_
  exact r_iretF C dX12_tieNow_17 hret hf (by decide) (by decide)
noncomputable def fX12_tieNow_b63 (N : Nat)  (t : Nat) (h : Hs)  : Option (Int32 × Hs) :=
  some ((-2), h)
set_option maxHeartbeats 4000000 in
set_option maxRecDepth 20000 in
theorem wX12_tieNow_b63 {p : Program} {l : Launch} {e : Env} {s : State} {m : MethodId} {args : Array Value} {below : List Frame} {meth : Method} {c : Code} {G : Gl} {N : Nat} {h : Hs} {r : Int32 × Hs}  {t : Nat}  (C : Cx p s m args meth c cX12_tieNow RX12 3 G) (hret : meth.sig.returnType = (some .int))  (hf : fX12_tieNow_b63 N  t h  = some r) : V p l e rmX12_tieNow s m args below meth c G 3 (MQ below (QcG G (some (.inl r.1)) r.2) args s rmX12_tieNow.cells rmX12_tieNow.slots (AG G)) h 0 0 63 [some (.inr (some t)), none, none] [] := by
  unfold fX12_tieNow_b63 at hf
  refine r_bipush (v := -2) C dX12_tieNow_63 (by decide) ?_
  exact r_iretF C dX12_tieNow_65 hret hf (by decide) (by decide)
noncomputable def fX12_tieNow (N : Nat) (h : Hs) (t : Nat) (p1 : Int32) (p2 : Int32) : Option (Int32 × Hs) :=
  (rc 12 h (some t)).bind fun a2 =>
  (fX12_isRope N h a2 p1).bind fun r1 =>
  if r1.1 = 0 then (
  fX12_tieNow_b16 N t r1.2)
  else (rc 12 r1.2 (some t)).bind fun a4 =>
  (fX12_isDrum N r1.2 a4 p2).bind fun r3 =>
  if r3.1 = 0 then (
  fX12_tieNow_b16 N t r3.2)
  else (oR 12 16 r3.2 (some t)).bind fun o5 =>
  (lA 20 r3.2 o5 p1).bind fun v6 =>
  if 0 ≤ v6 then (
  fX12_tieNow_b63 N t r3.2)
  else (oR 12 18 r3.2 (some t)).bind fun o7 =>
  (lA 21 r3.2 o7 p1).bind fun v8 =>
  if v8 = 0 then (
  (oR 12 12 r3.2 (some t)).bind fun o9 =>
  (lA 20 r3.2 o9 p1).bind fun v10 =>
  (rc 12 r3.2 (some t)).bind fun a12 =>
  (fX12_tiedTo N r3.2 a12 v10).bind fun r11 =>
  if 0 ≤ r11.1 then (
  fX12_tieNow_b63 N t r11.2)
  else (oR 12 15 r11.2 (some t)).bind fun o13 =>
  (lA 20 r11.2 o13 p1).bind fun v14 =>
  (rc 12 r11.2 (some t)).bind fun a16 =>
  (fX12_load N r11.2 a16 p1).bind fun r15 =>
  if r15.1 ≤ v14 then (
  (oR 12 16 r15.2 (some t)).bind fun o17 =>
  (sA r15.2 o17 p1 p2).bind fun h18 =>
  (oR 12 17 h18 (some t)).bind fun o19 =>
  (sA h18 o19 p1 0).bind fun h20 =>
  (oR 12 8 h20 (some t)).bind fun o21 =>
  (oR 12 12 h20 (some t)).bind fun o22 =>
  (lA 20 h20 o22 p1).bind fun v23 =>
  (oR 12 5 h20 (some t)).bind fun o24 =>
  (oR 12 12 h20 (some t)).bind fun o25 =>
  (lA 20 h20 o25 p1).bind fun v26 =>
  (lA 20 h20 o24 v26).bind fun v27 =>
  (sA h20 o21 v23 v27).bind fun h28 =>
  (oR 12 15 h28 (some t)).bind fun o29 =>
  (lA 20 h28 o29 p1).bind fun v30 =>
  (rc 12 h28 (some t)).bind fun a32 =>
  (fX12_load N h28 a32 p1).bind fun r31 =>
  some (v30 - r31.1, r31.2))
  else fX12_tieNow_b63 N t r15.2)
  else fX12_tieNow_b63 N t r3.2
set_option maxHeartbeats 4000000 in
set_option maxRecDepth 20000 in
theorem kX12_tieNow (l : Launch) (G : Gl) {N : Nat} {h : Hs} {t : Nat} {p1 : Int32} {p2 : Int32} {r : Int32 × Hs} (hf : fX12_tieNow N h t p1 p2 = some r) : CT l G yX12_tieNow cX12_tieNow 3 (some .int) rmX12_tieNow [.inr (some t), .inl p1, .inl p2] h (some (.inl r.1)) r.2 := by
  refine mk_CT (by decide) (Nat.le_of_ble_eq_true rfl) ?_
  intro p e s m args below meth c C hret hin
  unfold fX12_tieNow at hf
  refine r_aload_n C dX12_tieNow_0 rfl ?_
  refine r_iload_n C dX12_tieNow_1 rfl ?_
  obtain ⟨a2, ea2, hf⟩ := bS hf
  obtain ⟨r1, er1, hf⟩ := bS hf
  refine r_invV1 (As := [.inl p1]) (ci := 12) C dX12_tieNow_2 mcX12_isRope wd_1216 wd_1218 wp_33 rfl rfl (by decide) ⟨by decide, by decide⟩ ⟨by decide, by decide⟩ rfl (Nat.le_of_ble_eq_true rfl) ea2 (kX12_isRope l G er1) ?_
  refine r_if_eq (tgt := 16) C dX12_tieNow_5 (by decide) (fun hc => ?_) (fun hc => ?_)
  · have hf := ifT hf hc
    exact V.sub (wX12_tieNow_b16 C hret hf) (LW_s rfl (LW_n (LW_n (LW_e))))
  · have hf := ifF hf hc
    refine r_aload_n C dX12_tieNow_8 rfl ?_
    refine r_iload_n C dX12_tieNow_9 rfl ?_
    obtain ⟨a4, ea4, hf⟩ := bS hf
    obtain ⟨r3, er3, hf⟩ := bS hf
    refine r_invV1 (As := [.inl p2]) (ci := 12) C dX12_tieNow_10 mcX12_isDrum wd_1233 wd_1235 wp_36 rfl rfl (by decide) ⟨by decide, by decide⟩ ⟨by decide, by decide⟩ rfl (Nat.le_of_ble_eq_true rfl) ea4 (kX12_isDrum l G er3) ?_
    refine r_if_ne (tgt := 18) C dX12_tieNow_13 (by decide) (fun hc => ?_) (fun hc => ?_)
    · have hf := ifF hf hc
      refine r_aload_n C dX12_tieNow_18 rfl ?_
      obtain ⟨o5, eo5, hf⟩ := bS hf
      refine r_getR C dX12_tieNow_19 fl_X12_46 rfl eo5 ?_
      refine r_iload_n C dX12_tieNow_22 rfl ?_
      obtain ⟨v6, ev6, hf⟩ := bS hf
      refine r_iald C dX12_tieNow_23 ev6 ?_
      refine r_if_ge (tgt := 63) C dX12_tieNow_24 (by decide) (fun hc => ?_) (fun hc => ?_)
      · have hf := ifT hf hc
        exact V.sub (wX12_tieNow_b63 C hret hf) (LW_s rfl (LW_n (LW_n (LW_e))))
      · have hf := ifF hf hc
        refine r_aload_n C dX12_tieNow_27 rfl ?_
        obtain ⟨o7, eo7, hf⟩ := bS hf
        refine r_getR C dX12_tieNow_28 fl_X12_52 rfl eo7 ?_
        refine r_iload_n C dX12_tieNow_31 rfl ?_
        obtain ⟨v8, ev8, hf⟩ := bS hf
        refine r_zald C dX12_tieNow_32 ev8 ?_
        refine r_if_ne (tgt := 63) C dX12_tieNow_33 (by decide) (fun hc => ?_) (fun hc => ?_)
        · have hf := ifF hf hc
          exact V.sub (wX12_tieNow_b63 C hret hf) (LW_s rfl (LW_n (LW_n (LW_e))))
        · have hf := ifT hf hc
          refine r_aload_n C dX12_tieNow_36 rfl ?_
          refine r_aload_n C dX12_tieNow_37 rfl ?_
          obtain ⟨o9, eo9, hf⟩ := bS hf
          refine r_getR C dX12_tieNow_38 fl_X12_34 rfl eo9 ?_
          refine r_iload_n C dX12_tieNow_41 rfl ?_
          obtain ⟨v10, ev10, hf⟩ := bS hf
          refine r_iald C dX12_tieNow_42 ev10 ?_
          obtain ⟨a12, ea12, hf⟩ := bS hf
          obtain ⟨r11, er11, hf⟩ := bS hf
          refine r_invV1 (As := [.inl v10]) (ci := 12) C dX12_tieNow_43 mcX12_tiedTo wd_1196 wd_1198 wp_32 rfl rfl (by decide) ⟨by decide, by decide⟩ ⟨by decide, by decide⟩ rfl (Nat.le_of_ble_eq_true rfl) ea12 (kX12_tiedTo l G er11) ?_
          refine r_if_ge (tgt := 63) C dX12_tieNow_46 (by decide) (fun hc => ?_) (fun hc => ?_)
          · have hf := ifT hf hc
            exact V.sub (wX12_tieNow_b63 C hret hf) (LW_s rfl (LW_n (LW_n (LW_e))))
          · have hf := ifF hf hc
            refine r_aload_n C dX12_tieNow_49 rfl ?_
            obtain ⟨o13, eo13, hf⟩ := bS hf
            refine r_getR C dX12_tieNow_50 fl_X12_43 rfl eo13 ?_
            refine r_iload_n C dX12_tieNow_53 rfl ?_
            obtain ⟨v14, ev14, hf⟩ := bS hf
            refine r_iald C dX12_tieNow_54 ev14 ?_
            refine r_aload_n C dX12_tieNow_55 rfl ?_
            refine r_iload_n C dX12_tieNow_56 rfl ?_
            obtain ⟨a16, ea16, hf⟩ := bS hf
            obtain ⟨r15, er15, hf⟩ := bS hf
            refine r_invV1 (As := [.inl p1]) (ci := 12) C dX12_tieNow_57 mcX12_load wd_1221 wd_1223 wp_34 rfl rfl (by decide) ⟨by decide, by decide⟩ ⟨by decide, by decide⟩ rfl (Nat.le_of_ble_eq_true rfl) ea16 (kX12_load l G er15) ?_
            refine r_icmp_ge (tgt := 66) C dX12_tieNow_60 (by decide) (fun hc => ?_) (fun hc => ?_)
            · have hf := ifT hf hc
              refine r_aload_n C dX12_tieNow_66 rfl ?_
              obtain ⟨o17, eo17, hf⟩ := bS hf
              refine r_getR C dX12_tieNow_67 fl_X12_46 rfl eo17 ?_
              refine r_iload_n C dX12_tieNow_70 rfl ?_
              refine r_iload_n C dX12_tieNow_71 rfl ?_
              obtain ⟨h18, eh18, hf⟩ := bS hf
              refine r_iast C dX12_tieNow_72 eh18 ?_
              refine r_aload_n C dX12_tieNow_73 rfl ?_
              obtain ⟨o19, eo19, hf⟩ := bS hf
              refine r_getR C dX12_tieNow_74 fl_X12_49 rfl eo19 ?_
              refine r_iload_n C dX12_tieNow_77 rfl ?_
              refine r_iconst (v := 0) C dX12_tieNow_78 (by decide) ?_
              obtain ⟨h20, eh20, hf⟩ := bS hf
              refine r_iast C dX12_tieNow_79 eh20 ?_
              refine r_aload_n C dX12_tieNow_80 rfl ?_
              obtain ⟨o21, eo21, hf⟩ := bS hf
              refine r_getR C dX12_tieNow_81 fl_X12_28 rfl eo21 ?_
              refine r_aload_n C dX12_tieNow_84 rfl ?_
              obtain ⟨o22, eo22, hf⟩ := bS hf
              refine r_getR C dX12_tieNow_85 fl_X12_34 rfl eo22 ?_
              refine r_iload_n C dX12_tieNow_88 rfl ?_
              obtain ⟨v23, ev23, hf⟩ := bS hf
              refine r_iald C dX12_tieNow_89 ev23 ?_
              refine r_aload_n C dX12_tieNow_90 rfl ?_
              obtain ⟨o24, eo24, hf⟩ := bS hf
              refine r_getR C dX12_tieNow_91 fl_X12_19 rfl eo24 ?_
              refine r_aload_n C dX12_tieNow_94 rfl ?_
              obtain ⟨o25, eo25, hf⟩ := bS hf
              refine r_getR C dX12_tieNow_95 fl_X12_34 rfl eo25 ?_
              refine r_iload_n C dX12_tieNow_98 rfl ?_
              obtain ⟨v26, ev26, hf⟩ := bS hf
              refine r_iald C dX12_tieNow_99 ev26 ?_
              obtain ⟨v27, ev27, hf⟩ := bS hf
              refine r_iald C dX12_tieNow_100 ev27 ?_
              obtain ⟨h28, eh28, hf⟩ := bS hf
              refine r_iast C dX12_tieNow_101 eh28 ?_
              refine r_aload_n C dX12_tieNow_102 rfl ?_
              obtain ⟨o29, eo29, hf⟩ := bS hf
              refine r_getR C dX12_tieNow_103 fl_X12_43 rfl eo29 ?_
              refine r_iload_n C dX12_tieNow_106 rfl ?_
              obtain ⟨v30, ev30, hf⟩ := bS hf
              refine r_iald C dX12_tieNow_107 ev30 ?_
              refine r_aload_n C dX12_tieNow_108 rfl ?_
              refine r_iload_n C dX12_tieNow_109 rfl ?_
              obtain ⟨a32, ea32, hf⟩ := bS hf
              obtain ⟨r31, er31, hf⟩ := bS hf
              refine r_invV1 (As := [.inl p1]) (ci := 12) C dX12_tieNow_110 mcX12_load wd_1221 wd_1223 wp_34 rfl rfl (by decide) ⟨by decide, by decide⟩ ⟨by decide, by decide⟩ rfl (Nat.le_of_ble_eq_true rfl) ea32 (kX12_load l G er31) ?_
              refine r_isub C dX12_tieNow_113 ?_
              exact r_iretF C dX12_tieNow_114 hret hf (by decide) (by decide)
            · have hf := ifF hf hc
              exact V.sub (wX12_tieNow_b63 C hret hf) (LW_s rfl (LW_n (LW_n (LW_e))))
    · have hf := ifT hf hc
      exact V.sub (wX12_tieNow_b16 C hret hf) (LW_s rfl (LW_n (LW_n (LW_e))))

theorem dgX12_tie_0 : (decode cX12_tie 0 = .ok (.aload_n 0, 1)) ∧ (decode cX12_tie 1 = .ok (.iload_n 1, 1)) ∧ (decode cX12_tie 2 = .ok (.iload_n 2, 1)) ∧ (decode cX12_tie 3 = .ok (.invokevirtual 184, 3)) ∧ (decode cX12_tie 6 = .ok (.istore_n 3, 1)) ∧ (decode cX12_tie 7 = .ok (.aload_n 0, 1)) ∧ (decode cX12_tie 8 = .ok (.aload_n 0, 1)) ∧ (decode cX12_tie 9 = .ok (.getfield 162, 3)) ∧ (decode cX12_tie 12 = .ok (.ifCond .eq 11, 3)) ∧ (decode cX12_tie 15 = .ok (.iload_n 3, 1)) ∧ (decode cX12_tie 16 = .ok (.ifCond .ge 7, 3)) ∧ (decode cX12_tie 19 = .ok (.iconst 1, 1)) ∧ True := dkW [(0, .aload_n 0, 1), (1, .iload_n 1, 1), (2, .iload_n 2, 1), (3, .invokevirtual 184, 3), (6, .istore_n 3, 1), (7, .aload_n 0, 1), (8, .aload_n 0, 1), (9, .getfield 162, 3), (12, .ifCond .eq 11, 3), (15, .iload_n 3, 1), (16, .ifCond .ge 7, 3), (19, .iconst 1, 1)] 0 (by decide +kernel)
theorem dX12_tie_0 : decode cX12_tie 0 = .ok (.aload_n 0, 1) := dgX12_tie_0.1
theorem dX12_tie_1 : decode cX12_tie 1 = .ok (.iload_n 1, 1) := dgX12_tie_0.2.1
theorem dX12_tie_2 : decode cX12_tie 2 = .ok (.iload_n 2, 1) := dgX12_tie_0.2.2.1
theorem dX12_tie_3 : decode cX12_tie 3 = .ok (.invokevirtual 184, 3) := dgX12_tie_0.2.2.2.1
theorem dX12_tie_6 : decode cX12_tie 6 = .ok (.istore_n 3, 1) := dgX12_tie_0.2.2.2.2.1
theorem dX12_tie_7 : decode cX12_tie 7 = .ok (.aload_n 0, 1) := dgX12_tie_0.2.2.2.2.2.1
theorem dX12_tie_8 : decode cX12_tie 8 = .ok (.aload_n 0, 1) := dgX12_tie_0.2.2.2.2.2.2.1
theorem dX12_tie_9 : decode cX12_tie 9 = .ok (.getfield 162, 3) := dgX12_tie_0.2.2.2.2.2.2.2.1
theorem dX12_tie_12 : decode cX12_tie 12 = .ok (.ifCond .eq 11, 3) := dgX12_tie_0.2.2.2.2.2.2.2.2.1
theorem dX12_tie_15 : decode cX12_tie 15 = .ok (.iload_n 3, 1) := dgX12_tie_0.2.2.2.2.2.2.2.2.2.1
theorem dX12_tie_16 : decode cX12_tie 16 = .ok (.ifCond .ge 7, 3) := dgX12_tie_0.2.2.2.2.2.2.2.2.2.2.1
theorem dX12_tie_19 : decode cX12_tie 19 = .ok (.iconst 1, 1) := dgX12_tie_0.2.2.2.2.2.2.2.2.2.2.2.1
theorem dgX12_tie_20 : (decode cX12_tie 20 = .ok (.goto 4, 3)) ∧ (decode cX12_tie 23 = .ok (.iconst 0, 1)) ∧ (decode cX12_tie 24 = .ok (.putfield 162, 3)) ∧ (decode cX12_tie 27 = .ok (.iload_n 3, 1)) ∧ (decode cX12_tie 28 = .ok (.ireturn, 1)) ∧ True := dkW [(20, .goto 4, 3), (23, .iconst 0, 1), (24, .putfield 162, 3), (27, .iload_n 3, 1), (28, .ireturn, 1)] 20 (by decide +kernel)
theorem dX12_tie_20 : decode cX12_tie 20 = .ok (.goto 4, 3) := dgX12_tie_20.1
theorem dX12_tie_23 : decode cX12_tie 23 = .ok (.iconst 0, 1) := dgX12_tie_20.2.1
theorem dX12_tie_24 : decode cX12_tie 24 = .ok (.putfield 162, 3) := dgX12_tie_20.2.2.1
theorem dX12_tie_27 : decode cX12_tie 27 = .ok (.iload_n 3, 1) := dgX12_tie_20.2.2.2.1
theorem dX12_tie_28 : decode cX12_tie 28 = .ok (.ireturn, 1) := dgX12_tie_20.2.2.2.2.1
abbrev rmX12_tie : Room := { frames := 3, cells := 0, slots := 0, locals := 65 }
noncomputable def fX12_tie_b24 (N : Nat)  (t : Nat) (h : Hs) (x3 : Int32) (q0 : Option Nat) (u1 : Int32) : Option (Int32 × Hs) :=
  (qZ 12 43 h q0 u1).bind fun h1 =>
  some (x3, h1)
set_option maxHeartbeats 4000000 in
set_option maxRecDepth 20000 in
theorem wX12_tie_b24 {p : Program} {l : Launch} {e : Env} {s : State} {m : MethodId} {args : Array Value} {below : List Frame} {meth : Method} {c : Code} {G : Gl} {N : Nat} {h : Hs} {r : Int32 × Hs}  {t : Nat} {x3 : Int32} {q0 : Option Nat} {u1 : Int32} (C : Cx p s m args meth c cX12_tie RX12 4 G) (hret : meth.sig.returnType = (some .int))  (hf : fX12_tie_b24 N  t h x3 q0 u1 = some r) : V p l e rmX12_tie s m args below meth c G 4 (MQ below (QcG G (some (.inl r.1)) r.2) args s rmX12_tie.cells rmX12_tie.slots (AG G)) h 0 0 24 [some (.inr (some t)), none, none, some (.inl x3)] [.inl u1, .inr q0] := by
  unfold fX12_tie_b24 at hf
  obtain ⟨h1, eh1, hf⟩ := bS hf
  refine r_putZ C dX12_tie_24 fl_X12_162 (Or.inl fn_12_43) rfl eh1 ?_
  refine r_iload_n C dX12_tie_27 rfl ?_
  exact r_iretF C dX12_tie_28 hret hf (by decide) (by decide)
noncomputable def fX12_tie_b23 (N : Nat)  (t : Nat) (h : Hs) (x3 : Int32) (q0 : Option Nat) : Option (Int32 × Hs) :=
  fX12_tie_b24 N t h x3 q0 0
set_option maxHeartbeats 4000000 in
set_option maxRecDepth 20000 in
theorem wX12_tie_b23 {p : Program} {l : Launch} {e : Env} {s : State} {m : MethodId} {args : Array Value} {below : List Frame} {meth : Method} {c : Code} {G : Gl} {N : Nat} {h : Hs} {r : Int32 × Hs}  {t : Nat} {x3 : Int32} {q0 : Option Nat} (C : Cx p s m args meth c cX12_tie RX12 4 G) (hret : meth.sig.returnType = (some .int))  (hf : fX12_tie_b23 N  t h x3 q0 = some r) : V p l e rmX12_tie s m args below meth c G 4 (MQ below (QcG G (some (.inl r.1)) r.2) args s rmX12_tie.cells rmX12_tie.slots (AG G)) h 0 0 23 [some (.inr (some t)), none, none, some (.inl x3)] [.inr q0] := by
  unfold fX12_tie_b23 at hf
  refine r_iconst (v := 0) C dX12_tie_23 (by decide) ?_
  exact V.sub (wX12_tie_b24 C hret hf) (LW_s rfl (LW_n (LW_n (LW_s rfl (LW_e)))))
noncomputable def fX12_tie (N : Nat) (h : Hs) (t : Nat) (p1 : Int32) (p2 : Int32) : Option (Int32 × Hs) :=
  (rc 12 h (some t)).bind fun a2 =>
  (fX12_tieNow N h a2 p1 p2).bind fun r1 =>
  (oI 12 43 r1.2 (some t)).bind fun v3 =>
  if v3 = 0 then (
  fX12_tie_b23 N t r1.2 r1.1 (some t))
  else if 0 ≤ r1.1 then (
  fX12_tie_b23 N t r1.2 r1.1 (some t))
  else fX12_tie_b24 N t r1.2 r1.1 (some t) 1
set_option maxHeartbeats 4000000 in
set_option maxRecDepth 20000 in
theorem kX12_tie (l : Launch) (G : Gl) {N : Nat} {h : Hs} {t : Nat} {p1 : Int32} {p2 : Int32} {r : Int32 × Hs} (hf : fX12_tie N h t p1 p2 = some r) : CT l G yX12_tie cX12_tie 4 (some .int) rmX12_tie [.inr (some t), .inl p1, .inl p2] h (some (.inl r.1)) r.2 := by
  refine mk_CT (by decide) (Nat.le_of_ble_eq_true rfl) ?_
  intro p e s m args below meth c C hret hin
  unfold fX12_tie at hf
  refine r_aload_n C dX12_tie_0 rfl ?_
  refine r_iload_n C dX12_tie_1 rfl ?_
  refine r_iload_n C dX12_tie_2 rfl ?_
  obtain ⟨a2, ea2, hf⟩ := bS hf
  obtain ⟨r1, er1, hf⟩ := bS hf
  refine r_invV1 (As := [.inl p1, .inl p2]) (ci := 12) C dX12_tie_3 mcX12_tieNow wd_1229 wd_1231 wp_35 rfl rfl (by decide) ⟨by decide, by decide⟩ ⟨by decide, by decide⟩ rfl (Nat.le_of_ble_eq_true rfl) ea2 (kX12_tieNow l G er1) ?_
  refine r_istore_n C dX12_tie_6 (by decide) ?_
  refine r_aload_n C dX12_tie_7 rfl ?_
  refine r_aload_n C dX12_tie_8 rfl ?_
  obtain ⟨v3, ev3, hf⟩ := bS hf
  refine r_getI C dX12_tie_9 fl_X12_162 rfl ev3 ?_
  refine r_if_eq (tgt := 23) C dX12_tie_12 (by decide) (fun hc => ?_) (fun hc => ?_)
  · have hf := ifT hf hc
    exact V.sub (wX12_tie_b23 C hret hf) (LW_s rfl (LW_n (LW_n (LW_s rfl (LW_e)))))
  · have hf := ifF hf hc
    refine r_iload_n C dX12_tie_15 rfl ?_
    refine r_if_ge (tgt := 23) C dX12_tie_16 (by decide) (fun hc => ?_) (fun hc => ?_)
    · have hf := ifT hf hc
      exact V.sub (wX12_tie_b23 C hret hf) (LW_s rfl (LW_n (LW_n (LW_s rfl (LW_e)))))
    · have hf := ifF hf hc
      refine r_iconst (v := 1) C dX12_tie_19 (by decide) ?_
      refine r_goto (tgt := 24) C dX12_tie_20 (by decide) ?_
      exact V.sub (wX12_tie_b24 C hret hf) (LW_s rfl (LW_n (LW_n (LW_s rfl (LW_e)))))

theorem dgX12_untieNow_0 : (decode cX12_untieNow 0 = .ok (.aload_n 0, 1)) ∧ (decode cX12_untieNow 1 = .ok (.iload_n 1, 1)) ∧ (decode cX12_untieNow 2 = .ok (.invokevirtual 174, 3)) ∧ (decode cX12_untieNow 5 = .ok (.ifCond .eq 12, 3)) ∧ (decode cX12_untieNow 8 = .ok (.aload_n 0, 1)) ∧ (decode cX12_untieNow 9 = .ok (.getfield 46, 3)) ∧ (decode cX12_untieNow 12 = .ok (.iload_n 1, 1)) ∧ (decode cX12_untieNow 13 = .ok (.iaload, 1)) ∧ (decode cX12_untieNow 14 = .ok (.ifCond .ge 6, 3)) ∧ (decode cX12_untieNow 17 = .ok (.ldc 177, 2)) ∧ (decode cX12_untieNow 19 = .ok (.ireturn, 1)) ∧ (decode cX12_untieNow 20 = .ok (.aload_n 0, 1)) ∧ True := dkW [(0, .aload_n 0, 1), (1, .iload_n 1, 1), (2, .invokevirtual 174, 3), (5, .ifCond .eq 12, 3), (8, .aload_n 0, 1), (9, .getfield 46, 3), (12, .iload_n 1, 1), (13, .iaload, 1), (14, .ifCond .ge 6, 3), (17, .ldc 177, 2), (19, .ireturn, 1), (20, .aload_n 0, 1)] 0 (by decide +kernel)
theorem dX12_untieNow_0 : decode cX12_untieNow 0 = .ok (.aload_n 0, 1) := dgX12_untieNow_0.1
theorem dX12_untieNow_1 : decode cX12_untieNow 1 = .ok (.iload_n 1, 1) := dgX12_untieNow_0.2.1
theorem dX12_untieNow_2 : decode cX12_untieNow 2 = .ok (.invokevirtual 174, 3) := dgX12_untieNow_0.2.2.1
theorem dX12_untieNow_5 : decode cX12_untieNow 5 = .ok (.ifCond .eq 12, 3) := dgX12_untieNow_0.2.2.2.1
theorem dX12_untieNow_8 : decode cX12_untieNow 8 = .ok (.aload_n 0, 1) := dgX12_untieNow_0.2.2.2.2.1
theorem dX12_untieNow_9 : decode cX12_untieNow 9 = .ok (.getfield 46, 3) := dgX12_untieNow_0.2.2.2.2.2.1
theorem dX12_untieNow_12 : decode cX12_untieNow 12 = .ok (.iload_n 1, 1) := dgX12_untieNow_0.2.2.2.2.2.2.1
theorem dX12_untieNow_13 : decode cX12_untieNow 13 = .ok (.iaload, 1) := dgX12_untieNow_0.2.2.2.2.2.2.2.1
theorem dX12_untieNow_14 : decode cX12_untieNow 14 = .ok (.ifCond .ge 6, 3) := dgX12_untieNow_0.2.2.2.2.2.2.2.2.1
theorem dX12_untieNow_17 : decode cX12_untieNow 17 = .ok (.ldc 177, 2) := dgX12_untieNow_0.2.2.2.2.2.2.2.2.2.1
theorem dX12_untieNow_19 : decode cX12_untieNow 19 = .ok (.ireturn, 1) := dgX12_untieNow_0.2.2.2.2.2.2.2.2.2.2.1
theorem dX12_untieNow_20 : decode cX12_untieNow 20 = .ok (.aload_n 0, 1) := dgX12_untieNow_0.2.2.2.2.2.2.2.2.2.2.2.1
theorem dgX12_untieNow_21 : (decode cX12_untieNow 21 = .ok (.getfield 46, 3)) ∧ (decode cX12_untieNow 24 = .ok (.iload_n 1, 1)) ∧ True := dkW [(21, .getfield 46, 3), (24, .iload_n 1, 1)] 21 (by decide +kernel)
theorem dX12_untieNow_21 : decode cX12_untieNow 21 = .ok (.getfield 46, 3) := dgX12_untieNow_21.1
theorem dX12_untieNow_24 : decode cX12_untieNow 24 = .ok (.iload_n 1, 1) := dgX12_untieNow_21.2.1
theorem dX12_untieNow_25 : decode cX12_untieNow 25 = .ok (.iconst (-1), 1) := by decide +kernel
theorem dgX12_untieNow_26 : (decode cX12_untieNow 26 = .ok (.iastore, 1)) ∧ (decode cX12_untieNow 27 = .ok (.aload_n 0, 1)) ∧ (decode cX12_untieNow 28 = .ok (.getfield 49, 3)) ∧ (decode cX12_untieNow 31 = .ok (.iload_n 1, 1)) ∧ (decode cX12_untieNow 32 = .ok (.iaload, 1)) ∧ (decode cX12_untieNow 33 = .ok (.ireturn, 1)) ∧ True := dkW [(26, .iastore, 1), (27, .aload_n 0, 1), (28, .getfield 49, 3), (31, .iload_n 1, 1), (32, .iaload, 1), (33, .ireturn, 1)] 26 (by decide +kernel)
theorem dX12_untieNow_26 : decode cX12_untieNow 26 = .ok (.iastore, 1) := dgX12_untieNow_26.1
theorem dX12_untieNow_27 : decode cX12_untieNow 27 = .ok (.aload_n 0, 1) := dgX12_untieNow_26.2.1
theorem dX12_untieNow_28 : decode cX12_untieNow 28 = .ok (.getfield 49, 3) := dgX12_untieNow_26.2.2.1
theorem dX12_untieNow_31 : decode cX12_untieNow 31 = .ok (.iload_n 1, 1) := dgX12_untieNow_26.2.2.2.1
theorem dX12_untieNow_32 : decode cX12_untieNow 32 = .ok (.iaload, 1) := dgX12_untieNow_26.2.2.2.2.1
theorem dX12_untieNow_33 : decode cX12_untieNow 33 = .ok (.ireturn, 1) := dgX12_untieNow_26.2.2.2.2.2.1
abbrev rmX12_untieNow : Room := { frames := 2, cells := 0, slots := 0, locals := 43 }
noncomputable def fX12_untieNow_b17 (N : Nat)  (t : Nat) (h : Hs)  : Option (Int32 × Hs) :=
  some ((-2000000000), h)
set_option maxHeartbeats 4000000 in
set_option maxRecDepth 20000 in
theorem wX12_untieNow_b17 {p : Program} {l : Launch} {e : Env} {s : State} {m : MethodId} {args : Array Value} {below : List Frame} {meth : Method} {c : Code} {G : Gl} {N : Nat} {h : Hs} {r : Int32 × Hs}  {t : Nat}  (C : Cx p s m args meth c cX12_untieNow RX12 2 G) (hret : meth.sig.returnType = (some .int))  (hf : fX12_untieNow_b17 N  t h  = some r) : V p l e rmX12_untieNow s m args below meth c G 2 (MQ below (QcG G (some (.inl r.1)) r.2) args s rmX12_untieNow.cells rmX12_untieNow.slots (AG G)) h 0 0 17 [some (.inr (some t)), none] [] := by
  unfold fX12_untieNow_b17 at hf
  refine r_ldc C dX12_untieNow_17 wd_1220 ?_
  exact r_iretF C dX12_untieNow_19 hret hf (by decide) (by decide)
noncomputable def fX12_untieNow (N : Nat) (h : Hs) (t : Nat) (p1 : Int32) : Option (Int32 × Hs) :=
  (rc 12 h (some t)).bind fun a2 =>
  (fX12_isRope N h a2 p1).bind fun r1 =>
  if r1.1 = 0 then (
  fX12_untieNow_b17 N t r1.2)
  else (oR 12 16 r1.2 (some t)).bind fun o3 =>
  (lA 20 r1.2 o3 p1).bind fun v4 =>
  if 0 ≤ v4 then (
  (oR 12 16 r1.2 (some t)).bind fun o5 =>
  (sA r1.2 o5 p1 (-1)).bind fun h6 =>
  (oR 12 17 h6 (some t)).bind fun o7 =>
  (lA 20 h6 o7 p1).bind fun v8 =>
  some (v8, h6))
  else fX12_untieNow_b17 N t r1.2
set_option maxHeartbeats 4000000 in
set_option maxRecDepth 20000 in
theorem kX12_untieNow (l : Launch) (G : Gl) {N : Nat} {h : Hs} {t : Nat} {p1 : Int32} {r : Int32 × Hs} (hf : fX12_untieNow N h t p1 = some r) : CT l G yX12_untieNow cX12_untieNow 2 (some .int) rmX12_untieNow [.inr (some t), .inl p1] h (some (.inl r.1)) r.2 := by
  refine mk_CT (by decide) (Nat.le_of_ble_eq_true rfl) ?_
  intro p e s m args below meth c C hret hin
  unfold fX12_untieNow at hf
  refine r_aload_n C dX12_untieNow_0 rfl ?_
  refine r_iload_n C dX12_untieNow_1 rfl ?_
  obtain ⟨a2, ea2, hf⟩ := bS hf
  obtain ⟨r1, er1, hf⟩ := bS hf
  refine r_invV1 (As := [.inl p1]) (ci := 12) C dX12_untieNow_2 mcX12_isRope wd_1216 wd_1218 wp_33 rfl rfl (by decide) ⟨by decide, by decide⟩ ⟨by decide, by decide⟩ rfl (Nat.le_of_ble_eq_true rfl) ea2 (kX12_isRope l G er1) ?_
  refine r_if_eq (tgt := 17) C dX12_untieNow_5 (by decide) (fun hc => ?_) (fun hc => ?_)
  · have hf := ifT hf hc
    exact V.sub (wX12_untieNow_b17 C hret hf) (LW_s rfl (LW_n (LW_e)))
  · have hf := ifF hf hc
    refine r_aload_n C dX12_untieNow_8 rfl ?_
    obtain ⟨o3, eo3, hf⟩ := bS hf
    refine r_getR C dX12_untieNow_9 fl_X12_46 rfl eo3 ?_
    refine r_iload_n C dX12_untieNow_12 rfl ?_
    obtain ⟨v4, ev4, hf⟩ := bS hf
    refine r_iald C dX12_untieNow_13 ev4 ?_
    refine r_if_ge (tgt := 20) C dX12_untieNow_14 (by decide) (fun hc => ?_) (fun hc => ?_)
    · have hf := ifT hf hc
      refine r_aload_n C dX12_untieNow_20 rfl ?_
      obtain ⟨o5, eo5, hf⟩ := bS hf
      refine r_getR C dX12_untieNow_21 fl_X12_46 rfl eo5 ?_
      refine r_iload_n C dX12_untieNow_24 rfl ?_
      refine r_iconst (v := -1) C dX12_untieNow_25 (by decide) ?_
      obtain ⟨h6, eh6, hf⟩ := bS hf
      refine r_iast C dX12_untieNow_26 eh6 ?_
      refine r_aload_n C dX12_untieNow_27 rfl ?_
      obtain ⟨o7, eo7, hf⟩ := bS hf
      refine r_getR C dX12_untieNow_28 fl_X12_49 rfl eo7 ?_
      refine r_iload_n C dX12_untieNow_31 rfl ?_
      obtain ⟨v8, ev8, hf⟩ := bS hf
      refine r_iald C dX12_untieNow_32 ev8 ?_
      exact r_iretF C dX12_untieNow_33 hret hf (by decide) (by decide)
    · have hf := ifF hf hc
      exact V.sub (wX12_untieNow_b17 C hret hf) (LW_s rfl (LW_n (LW_e)))

theorem dgX12_untie_0 : (decode cX12_untie 0 = .ok (.aload_n 0, 1)) ∧ (decode cX12_untie 1 = .ok (.iload_n 1, 1)) ∧ (decode cX12_untie 2 = .ok (.invokevirtual 188, 3)) ∧ (decode cX12_untie 5 = .ok (.istore_n 2, 1)) ∧ (decode cX12_untie 6 = .ok (.aload_n 0, 1)) ∧ (decode cX12_untie 7 = .ok (.aload_n 0, 1)) ∧ (decode cX12_untie 8 = .ok (.getfield 162, 3)) ∧ (decode cX12_untie 11 = .ok (.ifCond .eq 13, 3)) ∧ (decode cX12_untie 14 = .ok (.iload_n 2, 1)) ∧ (decode cX12_untie 15 = .ok (.ldc 177, 2)) ∧ (decode cX12_untie 17 = .ok (.if_icmp .ne 7, 3)) ∧ (decode cX12_untie 20 = .ok (.iconst 1, 1)) ∧ True := dkW [(0, .aload_n 0, 1), (1, .iload_n 1, 1), (2, .invokevirtual 188, 3), (5, .istore_n 2, 1), (6, .aload_n 0, 1), (7, .aload_n 0, 1), (8, .getfield 162, 3), (11, .ifCond .eq 13, 3), (14, .iload_n 2, 1), (15, .ldc 177, 2), (17, .if_icmp .ne 7, 3), (20, .iconst 1, 1)] 0 (by decide +kernel)
theorem dX12_untie_0 : decode cX12_untie 0 = .ok (.aload_n 0, 1) := dgX12_untie_0.1
theorem dX12_untie_1 : decode cX12_untie 1 = .ok (.iload_n 1, 1) := dgX12_untie_0.2.1
theorem dX12_untie_2 : decode cX12_untie 2 = .ok (.invokevirtual 188, 3) := dgX12_untie_0.2.2.1
theorem dX12_untie_5 : decode cX12_untie 5 = .ok (.istore_n 2, 1) := dgX12_untie_0.2.2.2.1
theorem dX12_untie_6 : decode cX12_untie 6 = .ok (.aload_n 0, 1) := dgX12_untie_0.2.2.2.2.1
theorem dX12_untie_7 : decode cX12_untie 7 = .ok (.aload_n 0, 1) := dgX12_untie_0.2.2.2.2.2.1
theorem dX12_untie_8 : decode cX12_untie 8 = .ok (.getfield 162, 3) := dgX12_untie_0.2.2.2.2.2.2.1
theorem dX12_untie_11 : decode cX12_untie 11 = .ok (.ifCond .eq 13, 3) := dgX12_untie_0.2.2.2.2.2.2.2.1
theorem dX12_untie_14 : decode cX12_untie 14 = .ok (.iload_n 2, 1) := dgX12_untie_0.2.2.2.2.2.2.2.2.1
theorem dX12_untie_15 : decode cX12_untie 15 = .ok (.ldc 177, 2) := dgX12_untie_0.2.2.2.2.2.2.2.2.2.1
theorem dX12_untie_17 : decode cX12_untie 17 = .ok (.if_icmp .ne 7, 3) := dgX12_untie_0.2.2.2.2.2.2.2.2.2.2.1
theorem dX12_untie_20 : decode cX12_untie 20 = .ok (.iconst 1, 1) := dgX12_untie_0.2.2.2.2.2.2.2.2.2.2.2.1
theorem dgX12_untie_21 : (decode cX12_untie 21 = .ok (.goto 4, 3)) ∧ (decode cX12_untie 24 = .ok (.iconst 0, 1)) ∧ (decode cX12_untie 25 = .ok (.putfield 162, 3)) ∧ (decode cX12_untie 28 = .ok (.iload_n 2, 1)) ∧ (decode cX12_untie 29 = .ok (.ireturn, 1)) ∧ True := dkW [(21, .goto 4, 3), (24, .iconst 0, 1), (25, .putfield 162, 3), (28, .iload_n 2, 1), (29, .ireturn, 1)] 21 (by decide +kernel)
theorem dX12_untie_21 : decode cX12_untie 21 = .ok (.goto 4, 3) := dgX12_untie_21.1
theorem dX12_untie_24 : decode cX12_untie 24 = .ok (.iconst 0, 1) := dgX12_untie_21.2.1
theorem dX12_untie_25 : decode cX12_untie 25 = .ok (.putfield 162, 3) := dgX12_untie_21.2.2.1
theorem dX12_untie_28 : decode cX12_untie 28 = .ok (.iload_n 2, 1) := dgX12_untie_21.2.2.2.1
theorem dX12_untie_29 : decode cX12_untie 29 = .ok (.ireturn, 1) := dgX12_untie_21.2.2.2.2.1
abbrev rmX12_untie : Room := { frames := 3, cells := 0, slots := 0, locals := 64 }
noncomputable def fX12_untie_b25 (N : Nat)  (t : Nat) (h : Hs) (x2 : Int32) (q0 : Option Nat) (u1 : Int32) : Option (Int32 × Hs) :=
  (qZ 12 43 h q0 u1).bind fun h1 =>
  some (x2, h1)
set_option maxHeartbeats 4000000 in
set_option maxRecDepth 20000 in
theorem wX12_untie_b25 {p : Program} {l : Launch} {e : Env} {s : State} {m : MethodId} {args : Array Value} {below : List Frame} {meth : Method} {c : Code} {G : Gl} {N : Nat} {h : Hs} {r : Int32 × Hs}  {t : Nat} {x2 : Int32} {q0 : Option Nat} {u1 : Int32} (C : Cx p s m args meth c cX12_untie RX12 3 G) (hret : meth.sig.returnType = (some .int))  (hf : fX12_untie_b25 N  t h x2 q0 u1 = some r) : V p l e rmX12_untie s m args below meth c G 3 (MQ below (QcG G (some (.inl r.1)) r.2) args s rmX12_untie.cells rmX12_untie.slots (AG G)) h 0 0 25 [some (.inr (some t)), none, some (.inl x2)] [.inl u1, .inr q0] := by
  unfold fX12_untie_b25 at hf
  obtain ⟨h1, eh1, hf⟩ := bS hf
  refine r_putZ C dX12_untie_25 fl_X12_162 (Or.inl fn_12_43) rfl eh1 ?_
  refine r_iload_n C dX12_untie_28 rfl ?_
  exact r_iretF C dX12_untie_29 hret hf (by decide) (by decide)
noncomputable def fX12_untie_b24 (N : Nat)  (t : Nat) (h : Hs) (x2 : Int32) (q0 : Option Nat) : Option (Int32 × Hs) :=
  fX12_untie_b25 N t h x2 q0 0
set_option maxHeartbeats 4000000 in
set_option maxRecDepth 20000 in
theorem wX12_untie_b24 {p : Program} {l : Launch} {e : Env} {s : State} {m : MethodId} {args : Array Value} {below : List Frame} {meth : Method} {c : Code} {G : Gl} {N : Nat} {h : Hs} {r : Int32 × Hs}  {t : Nat} {x2 : Int32} {q0 : Option Nat} (C : Cx p s m args meth c cX12_untie RX12 3 G) (hret : meth.sig.returnType = (some .int))  (hf : fX12_untie_b24 N  t h x2 q0 = some r) : V p l e rmX12_untie s m args below meth c G 3 (MQ below (QcG G (some (.inl r.1)) r.2) args s rmX12_untie.cells rmX12_untie.slots (AG G)) h 0 0 24 [some (.inr (some t)), none, some (.inl x2)] [.inr q0] := by
  unfold fX12_untie_b24 at hf
  refine r_iconst (v := 0) C dX12_untie_24 (by decide) ?_
  exact V.sub (wX12_untie_b25 C hret hf) (LW_s rfl (LW_n (LW_s rfl (LW_e))))
noncomputable def fX12_untie (N : Nat) (h : Hs) (t : Nat) (p1 : Int32) : Option (Int32 × Hs) :=
  (rc 12 h (some t)).bind fun a2 =>
  (fX12_untieNow N h a2 p1).bind fun r1 =>
  (oI 12 43 r1.2 (some t)).bind fun v3 =>
  if v3 = 0 then (
  fX12_untie_b24 N t r1.2 r1.1 (some t))
  else if r1.1 = (-2000000000) then (
  fX12_untie_b25 N t r1.2 r1.1 (some t) 1)
  else fX12_untie_b24 N t r1.2 r1.1 (some t)
set_option maxHeartbeats 4000000 in
set_option maxRecDepth 20000 in
theorem kX12_untie (l : Launch) (G : Gl) {N : Nat} {h : Hs} {t : Nat} {p1 : Int32} {r : Int32 × Hs} (hf : fX12_untie N h t p1 = some r) : CT l G yX12_untie cX12_untie 3 (some .int) rmX12_untie [.inr (some t), .inl p1] h (some (.inl r.1)) r.2 := by
  refine mk_CT (by decide) (Nat.le_of_ble_eq_true rfl) ?_
  intro p e s m args below meth c C hret hin
  unfold fX12_untie at hf
  refine r_aload_n C dX12_untie_0 rfl ?_
  refine r_iload_n C dX12_untie_1 rfl ?_
  obtain ⟨a2, ea2, hf⟩ := bS hf
  obtain ⟨r1, er1, hf⟩ := bS hf
  refine r_invV1 (As := [.inl p1]) (ci := 12) C dX12_untie_2 mcX12_untieNow wd_1241 wd_1243 wp_37 rfl rfl (by decide) ⟨by decide, by decide⟩ ⟨by decide, by decide⟩ rfl (Nat.le_of_ble_eq_true rfl) ea2 (kX12_untieNow l G er1) ?_
  refine r_istore_n C dX12_untie_5 (by decide) ?_
  refine r_aload_n C dX12_untie_6 rfl ?_
  refine r_aload_n C dX12_untie_7 rfl ?_
  obtain ⟨v3, ev3, hf⟩ := bS hf
  refine r_getI C dX12_untie_8 fl_X12_162 rfl ev3 ?_
  refine r_if_eq (tgt := 24) C dX12_untie_11 (by decide) (fun hc => ?_) (fun hc => ?_)
  · have hf := ifT hf hc
    exact V.sub (wX12_untie_b24 C hret hf) (LW_s rfl (LW_n (LW_s rfl (LW_e))))
  · have hf := ifF hf hc
    refine r_iload_n C dX12_untie_14 rfl ?_
    refine r_ldc C dX12_untie_15 wd_1220 ?_
    refine r_icmp_ne (tgt := 24) C dX12_untie_17 (by decide) (fun hc => ?_) (fun hc => ?_)
    · have hf := ifF hf hc
      exact V.sub (wX12_untie_b24 C hret hf) (LW_s rfl (LW_n (LW_s rfl (LW_e))))
    · have hf := ifT hf hc
      refine r_iconst (v := 1) C dX12_untie_20 (by decide) ?_
      refine r_goto (tgt := 25) C dX12_untie_21 (by decide) ?_
      exact V.sub (wX12_untie_b25 C hret hf) (LW_s rfl (LW_n (LW_s rfl (LW_e))))

theorem dgX12_weighNow_0 : (decode cX12_weighNow 0 = .ok (.iload_n 1, 1)) ∧ (decode cX12_weighNow 1 = .ok (.iconst 0, 1)) ∧ (decode cX12_weighNow 2 = .ok (.bipush 19, 2)) ∧ (decode cX12_weighNow 4 = .ok (.invokestatic 149, 3)) ∧ (decode cX12_weighNow 7 = .ok (.ifCond .eq 16, 3)) ∧ (decode cX12_weighNow 10 = .ok (.iload_n 2, 1)) ∧ (decode cX12_weighNow 11 = .ok (.sipush (-9999), 3)) ∧ (decode cX12_weighNow 14 = .ok (.sipush 9999, 3)) ∧ (decode cX12_weighNow 17 = .ok (.invokestatic 149, 3)) ∧ (decode cX12_weighNow 20 = .ok (.ifCond .ne 6, 3)) ∧ (decode cX12_weighNow 23 = .ok (.ldc 177, 2)) ∧ (decode cX12_weighNow 25 = .ok (.ireturn, 1)) ∧ True := dkW [(0, .iload_n 1, 1), (1, .iconst 0, 1), (2, .bipush 19, 2), (4, .invokestatic 149, 3), (7, .ifCond .eq 16, 3), (10, .iload_n 2, 1), (11, .sipush (-9999), 3), (14, .sipush 9999, 3), (17, .invokestatic 149, 3), (20, .ifCond .ne 6, 3), (23, .ldc 177, 2), (25, .ireturn, 1)] 0 (by decide +kernel)
theorem dX12_weighNow_0 : decode cX12_weighNow 0 = .ok (.iload_n 1, 1) := dgX12_weighNow_0.1
theorem dX12_weighNow_1 : decode cX12_weighNow 1 = .ok (.iconst 0, 1) := dgX12_weighNow_0.2.1
theorem dX12_weighNow_2 : decode cX12_weighNow 2 = .ok (.bipush 19, 2) := dgX12_weighNow_0.2.2.1
theorem dX12_weighNow_4 : decode cX12_weighNow 4 = .ok (.invokestatic 149, 3) := dgX12_weighNow_0.2.2.2.1
theorem dX12_weighNow_7 : decode cX12_weighNow 7 = .ok (.ifCond .eq 16, 3) := dgX12_weighNow_0.2.2.2.2.1
theorem dX12_weighNow_10 : decode cX12_weighNow 10 = .ok (.iload_n 2, 1) := dgX12_weighNow_0.2.2.2.2.2.1
theorem dX12_weighNow_11 : decode cX12_weighNow 11 = .ok (.sipush (-9999), 3) := dgX12_weighNow_0.2.2.2.2.2.2.1
theorem dX12_weighNow_14 : decode cX12_weighNow 14 = .ok (.sipush 9999, 3) := dgX12_weighNow_0.2.2.2.2.2.2.2.1
theorem dX12_weighNow_17 : decode cX12_weighNow 17 = .ok (.invokestatic 149, 3) := dgX12_weighNow_0.2.2.2.2.2.2.2.2.1
theorem dX12_weighNow_20 : decode cX12_weighNow 20 = .ok (.ifCond .ne 6, 3) := dgX12_weighNow_0.2.2.2.2.2.2.2.2.2.1
theorem dX12_weighNow_23 : decode cX12_weighNow 23 = .ok (.ldc 177, 2) := dgX12_weighNow_0.2.2.2.2.2.2.2.2.2.2.1
theorem dX12_weighNow_25 : decode cX12_weighNow 25 = .ok (.ireturn, 1) := dgX12_weighNow_0.2.2.2.2.2.2.2.2.2.2.2.1
theorem dgX12_weighNow_26 : (decode cX12_weighNow 26 = .ok (.aload_n 0, 1)) ∧ (decode cX12_weighNow 27 = .ok (.getfield 56, 3)) ∧ (decode cX12_weighNow 30 = .ok (.iload_n 1, 1)) ∧ (decode cX12_weighNow 31 = .ok (.iaload, 1)) ∧ (decode cX12_weighNow 32 = .ok (.istore_n 3, 1)) ∧ (decode cX12_weighNow 33 = .ok (.aload_n 0, 1)) ∧ (decode cX12_weighNow 34 = .ok (.getfield 56, 3)) ∧ (decode cX12_weighNow 37 = .ok (.iload_n 1, 1)) ∧ (decode cX12_weighNow 38 = .ok (.iload_n 2, 1)) ∧ (decode cX12_weighNow 39 = .ok (.iastore, 1)) ∧ (decode cX12_weighNow 40 = .ok (.iload_n 3, 1)) ∧ (decode cX12_weighNow 41 = .ok (.ireturn, 1)) ∧ True := dkW [(26, .aload_n 0, 1), (27, .getfield 56, 3), (30, .iload_n 1, 1), (31, .iaload, 1), (32, .istore_n 3, 1), (33, .aload_n 0, 1), (34, .getfield 56, 3), (37, .iload_n 1, 1), (38, .iload_n 2, 1), (39, .iastore, 1), (40, .iload_n 3, 1), (41, .ireturn, 1)] 26 (by decide +kernel)
theorem dX12_weighNow_26 : decode cX12_weighNow 26 = .ok (.aload_n 0, 1) := dgX12_weighNow_26.1
theorem dX12_weighNow_27 : decode cX12_weighNow 27 = .ok (.getfield 56, 3) := dgX12_weighNow_26.2.1
theorem dX12_weighNow_30 : decode cX12_weighNow 30 = .ok (.iload_n 1, 1) := dgX12_weighNow_26.2.2.1
theorem dX12_weighNow_31 : decode cX12_weighNow 31 = .ok (.iaload, 1) := dgX12_weighNow_26.2.2.2.1
theorem dX12_weighNow_32 : decode cX12_weighNow 32 = .ok (.istore_n 3, 1) := dgX12_weighNow_26.2.2.2.2.1
theorem dX12_weighNow_33 : decode cX12_weighNow 33 = .ok (.aload_n 0, 1) := dgX12_weighNow_26.2.2.2.2.2.1
theorem dX12_weighNow_34 : decode cX12_weighNow 34 = .ok (.getfield 56, 3) := dgX12_weighNow_26.2.2.2.2.2.2.1
theorem dX12_weighNow_37 : decode cX12_weighNow 37 = .ok (.iload_n 1, 1) := dgX12_weighNow_26.2.2.2.2.2.2.2.1
theorem dX12_weighNow_38 : decode cX12_weighNow 38 = .ok (.iload_n 2, 1) := dgX12_weighNow_26.2.2.2.2.2.2.2.2.1
theorem dX12_weighNow_39 : decode cX12_weighNow 39 = .ok (.iastore, 1) := dgX12_weighNow_26.2.2.2.2.2.2.2.2.2.1
theorem dX12_weighNow_40 : decode cX12_weighNow 40 = .ok (.iload_n 3, 1) := dgX12_weighNow_26.2.2.2.2.2.2.2.2.2.2.1
theorem dX12_weighNow_41 : decode cX12_weighNow 41 = .ok (.ireturn, 1) := dgX12_weighNow_26.2.2.2.2.2.2.2.2.2.2.2.1
abbrev rmX12_weighNow : Room := { frames := 1, cells := 0, slots := 0, locals := 22 }
noncomputable def fX12_weighNow_b23 (N : Nat)  (t : Nat) (h : Hs)  : Option (Int32 × Hs) :=
  some ((-2000000000), h)
set_option maxHeartbeats 4000000 in
set_option maxRecDepth 20000 in
theorem wX12_weighNow_b23 {p : Program} {l : Launch} {e : Env} {s : State} {m : MethodId} {args : Array Value} {below : List Frame} {meth : Method} {c : Code} {G : Gl} {N : Nat} {h : Hs} {r : Int32 × Hs}  {t : Nat}  (C : Cx p s m args meth c cX12_weighNow RX12 4 G) (hret : meth.sig.returnType = (some .int))  (hf : fX12_weighNow_b23 N  t h  = some r) : V p l e rmX12_weighNow s m args below meth c G 4 (MQ below (QcG G (some (.inl r.1)) r.2) args s rmX12_weighNow.cells rmX12_weighNow.slots (AG G)) h 0 0 23 [some (.inr (some t)), none, none, none] [] := by
  unfold fX12_weighNow_b23 at hf
  refine r_ldc C dX12_weighNow_23 wd_1220 ?_
  exact r_iretF C dX12_weighNow_25 hret hf (by decide) (by decide)
noncomputable def fX12_weighNow (N : Nat) (h : Hs) (t : Nat) (p1 : Int32) (p2 : Int32) : Option (Int32 × Hs) :=
  (fX12_in N h p1 0 19).bind fun r1 =>
  if r1.1 = 0 then (
  fX12_weighNow_b23 N t r1.2)
  else (fX12_in N r1.2 p2 (-9999) 9999).bind fun r2 =>
  if r2.1 = 0 then (
  fX12_weighNow_b23 N t r2.2)
  else (oR 12 19 r2.2 (some t)).bind fun o3 =>
  (lA 20 r2.2 o3 p1).bind fun v4 =>
  (oR 12 19 r2.2 (some t)).bind fun o5 =>
  (sA r2.2 o5 p1 p2).bind fun h6 =>
  some (v4, h6)
set_option maxHeartbeats 4000000 in
set_option maxRecDepth 20000 in
theorem kX12_weighNow (l : Launch) (G : Gl) {N : Nat} {h : Hs} {t : Nat} {p1 : Int32} {p2 : Int32} {r : Int32 × Hs} (hf : fX12_weighNow N h t p1 p2 = some r) : CT l G yX12_weighNow cX12_weighNow 4 (some .int) rmX12_weighNow [.inr (some t), .inl p1, .inl p2] h (some (.inl r.1)) r.2 := by
  refine mk_CT (by decide) (Nat.le_of_ble_eq_true rfl) ?_
  intro p e s m args below meth c C hret hin
  unfold fX12_weighNow at hf
  refine r_iload_n C dX12_weighNow_0 rfl ?_
  refine r_iconst (v := 0) C dX12_weighNow_1 (by decide) ?_
  refine r_bipush (v := 19) C dX12_weighNow_2 (by decide) ?_
  obtain ⟨r1, er1, hf⟩ := bS hf
  refine r_invS1 (As := [.inl p1, .inl 0, .inl 19]) C dX12_weighNow_4 mcX12_in wd_1185 wd_1186 ⟨by decide, by decide⟩ ⟨by decide, by decide⟩ rfl (Nat.le_of_ble_eq_true rfl) (kX12_in l G er1) ?_
  refine r_if_eq (tgt := 23) C dX12_weighNow_7 (by decide) (fun hc => ?_) (fun hc => ?_)
  · have hf := ifT hf hc
    exact V.sub (wX12_weighNow_b23 C hret hf) (LW_s rfl (LW_n (LW_n (LW_n (LW_e)))))
  · have hf := ifF hf hc
    refine r_iload_n C dX12_weighNow_10 rfl ?_
    refine r_sipush (v := -9999) C dX12_weighNow_11 (by decide) ?_
    refine r_sipush (v := 9999) C dX12_weighNow_14 (by decide) ?_
    obtain ⟨r2, er2, hf⟩ := bS hf
    refine r_invS1 (As := [.inl p2, .inl (-9999), .inl 9999]) C dX12_weighNow_17 mcX12_in wd_1185 wd_1186 ⟨by decide, by decide⟩ ⟨by decide, by decide⟩ rfl (Nat.le_of_ble_eq_true rfl) (kX12_in l G er2) ?_
    refine r_if_ne (tgt := 26) C dX12_weighNow_20 (by decide) (fun hc => ?_) (fun hc => ?_)
    · have hf := ifF hf hc
      refine r_aload_n C dX12_weighNow_26 rfl ?_
      obtain ⟨o3, eo3, hf⟩ := bS hf
      refine r_getR C dX12_weighNow_27 fl_X12_56 rfl eo3 ?_
      refine r_iload_n C dX12_weighNow_30 rfl ?_
      obtain ⟨v4, ev4, hf⟩ := bS hf
      refine r_iald C dX12_weighNow_31 ev4 ?_
      refine r_istore_n C dX12_weighNow_32 (by decide) ?_
      refine r_aload_n C dX12_weighNow_33 rfl ?_
      obtain ⟨o5, eo5, hf⟩ := bS hf
      refine r_getR C dX12_weighNow_34 fl_X12_56 rfl eo5 ?_
      refine r_iload_n C dX12_weighNow_37 rfl ?_
      refine r_iload_n C dX12_weighNow_38 rfl ?_
      obtain ⟨h6, eh6, hf⟩ := bS hf
      refine r_iast C dX12_weighNow_39 eh6 ?_
      refine r_iload_n C dX12_weighNow_40 rfl ?_
      exact r_iretF C dX12_weighNow_41 hret hf (by decide) (by decide)
    · have hf := ifT hf hc
      exact V.sub (wX12_weighNow_b23 C hret hf) (LW_s rfl (LW_n (LW_n (LW_n (LW_e)))))

theorem dgX12_weight_0 : (decode cX12_weight 0 = .ok (.aload_n 0, 1)) ∧ (decode cX12_weight 1 = .ok (.iload_n 1, 1)) ∧ (decode cX12_weight 2 = .ok (.iload_n 2, 1)) ∧ (decode cX12_weight 3 = .ok (.invokevirtual 191, 3)) ∧ (decode cX12_weight 6 = .ok (.istore_n 3, 1)) ∧ (decode cX12_weight 7 = .ok (.aload_n 0, 1)) ∧ (decode cX12_weight 8 = .ok (.aload_n 0, 1)) ∧ (decode cX12_weight 9 = .ok (.getfield 162, 3)) ∧ (decode cX12_weight 12 = .ok (.ifCond .eq 13, 3)) ∧ (decode cX12_weight 15 = .ok (.iload_n 3, 1)) ∧ (decode cX12_weight 16 = .ok (.ldc 177, 2)) ∧ (decode cX12_weight 18 = .ok (.if_icmp .ne 7, 3)) ∧ True := dkW [(0, .aload_n 0, 1), (1, .iload_n 1, 1), (2, .iload_n 2, 1), (3, .invokevirtual 191, 3), (6, .istore_n 3, 1), (7, .aload_n 0, 1), (8, .aload_n 0, 1), (9, .getfield 162, 3), (12, .ifCond .eq 13, 3), (15, .iload_n 3, 1), (16, .ldc 177, 2), (18, .if_icmp .ne 7, 3)] 0 (by decide +kernel)
theorem dX12_weight_0 : decode cX12_weight 0 = .ok (.aload_n 0, 1) := dgX12_weight_0.1
theorem dX12_weight_1 : decode cX12_weight 1 = .ok (.iload_n 1, 1) := dgX12_weight_0.2.1
theorem dX12_weight_2 : decode cX12_weight 2 = .ok (.iload_n 2, 1) := dgX12_weight_0.2.2.1
theorem dX12_weight_3 : decode cX12_weight 3 = .ok (.invokevirtual 191, 3) := dgX12_weight_0.2.2.2.1
theorem dX12_weight_6 : decode cX12_weight 6 = .ok (.istore_n 3, 1) := dgX12_weight_0.2.2.2.2.1
theorem dX12_weight_7 : decode cX12_weight 7 = .ok (.aload_n 0, 1) := dgX12_weight_0.2.2.2.2.2.1
theorem dX12_weight_8 : decode cX12_weight 8 = .ok (.aload_n 0, 1) := dgX12_weight_0.2.2.2.2.2.2.1
theorem dX12_weight_9 : decode cX12_weight 9 = .ok (.getfield 162, 3) := dgX12_weight_0.2.2.2.2.2.2.2.1
theorem dX12_weight_12 : decode cX12_weight 12 = .ok (.ifCond .eq 13, 3) := dgX12_weight_0.2.2.2.2.2.2.2.2.1
theorem dX12_weight_15 : decode cX12_weight 15 = .ok (.iload_n 3, 1) := dgX12_weight_0.2.2.2.2.2.2.2.2.2.1
theorem dX12_weight_16 : decode cX12_weight 16 = .ok (.ldc 177, 2) := dgX12_weight_0.2.2.2.2.2.2.2.2.2.2.1
theorem dX12_weight_18 : decode cX12_weight 18 = .ok (.if_icmp .ne 7, 3) := dgX12_weight_0.2.2.2.2.2.2.2.2.2.2.2.1
theorem dgX12_weight_21 : (decode cX12_weight 21 = .ok (.iconst 1, 1)) ∧ (decode cX12_weight 22 = .ok (.goto 4, 3)) ∧ (decode cX12_weight 25 = .ok (.iconst 0, 1)) ∧ (decode cX12_weight 26 = .ok (.putfield 162, 3)) ∧ (decode cX12_weight 29 = .ok (.iload_n 3, 1)) ∧ (decode cX12_weight 30 = .ok (.ireturn, 1)) ∧ True := dkW [(21, .iconst 1, 1), (22, .goto 4, 3), (25, .iconst 0, 1), (26, .putfield 162, 3), (29, .iload_n 3, 1), (30, .ireturn, 1)] 21 (by decide +kernel)
theorem dX12_weight_21 : decode cX12_weight 21 = .ok (.iconst 1, 1) := dgX12_weight_21.1
theorem dX12_weight_22 : decode cX12_weight 22 = .ok (.goto 4, 3) := dgX12_weight_21.2.1
theorem dX12_weight_25 : decode cX12_weight 25 = .ok (.iconst 0, 1) := dgX12_weight_21.2.2.1
theorem dX12_weight_26 : decode cX12_weight 26 = .ok (.putfield 162, 3) := dgX12_weight_21.2.2.2.1
theorem dX12_weight_29 : decode cX12_weight 29 = .ok (.iload_n 3, 1) := dgX12_weight_21.2.2.2.2.1
theorem dX12_weight_30 : decode cX12_weight 30 = .ok (.ireturn, 1) := dgX12_weight_21.2.2.2.2.2.1
abbrev rmX12_weight : Room := { frames := 2, cells := 0, slots := 0, locals := 45 }
noncomputable def fX12_weight_b26 (N : Nat)  (t : Nat) (h : Hs) (x3 : Int32) (q0 : Option Nat) (u1 : Int32) : Option (Int32 × Hs) :=
  (qZ 12 43 h q0 u1).bind fun h1 =>
  some (x3, h1)
set_option maxHeartbeats 4000000 in
set_option maxRecDepth 20000 in
theorem wX12_weight_b26 {p : Program} {l : Launch} {e : Env} {s : State} {m : MethodId} {args : Array Value} {below : List Frame} {meth : Method} {c : Code} {G : Gl} {N : Nat} {h : Hs} {r : Int32 × Hs}  {t : Nat} {x3 : Int32} {q0 : Option Nat} {u1 : Int32} (C : Cx p s m args meth c cX12_weight RX12 4 G) (hret : meth.sig.returnType = (some .int))  (hf : fX12_weight_b26 N  t h x3 q0 u1 = some r) : V p l e rmX12_weight s m args below meth c G 4 (MQ below (QcG G (some (.inl r.1)) r.2) args s rmX12_weight.cells rmX12_weight.slots (AG G)) h 0 0 26 [some (.inr (some t)), none, none, some (.inl x3)] [.inl u1, .inr q0] := by
  unfold fX12_weight_b26 at hf
  obtain ⟨h1, eh1, hf⟩ := bS hf
  refine r_putZ C dX12_weight_26 fl_X12_162 (Or.inl fn_12_43) rfl eh1 ?_
  refine r_iload_n C dX12_weight_29 rfl ?_
  exact r_iretF C dX12_weight_30 hret hf (by decide) (by decide)
noncomputable def fX12_weight_b25 (N : Nat)  (t : Nat) (h : Hs) (x3 : Int32) (q0 : Option Nat) : Option (Int32 × Hs) :=
  fX12_weight_b26 N t h x3 q0 0
set_option maxHeartbeats 4000000 in
set_option maxRecDepth 20000 in
theorem wX12_weight_b25 {p : Program} {l : Launch} {e : Env} {s : State} {m : MethodId} {args : Array Value} {below : List Frame} {meth : Method} {c : Code} {G : Gl} {N : Nat} {h : Hs} {r : Int32 × Hs}  {t : Nat} {x3 : Int32} {q0 : Option Nat} (C : Cx p s m args meth c cX12_weight RX12 4 G) (hret : meth.sig.returnType = (some .int))  (hf : fX12_weight_b25 N  t h x3 q0 = some r) : V p l e rmX12_weight s m args below meth c G 4 (MQ below (QcG G (some (.inl r.1)) r.2) args s rmX12_weight.cells rmX12_weight.slots (AG G)) h 0 0 25 [some (.inr (some t)), none, none, some (.inl x3)] [.inr q0] := by
  unfold fX12_weight_b25 at hf
  refine r_iconst (v := 0) C dX12_weight_25 (by decide) ?_
  exact V.sub (wX12_weight_b26 C hret hf) (LW_s rfl (LW_n (LW_n (LW_s rfl (LW_e)))))
noncomputable def fX12_weight (N : Nat) (h : Hs) (t : Nat) (p1 : Int32) (p2 : Int32) : Option (Int32 × Hs) :=
  (rc 12 h (some t)).bind fun a2 =>
  (fX12_weighNow N h a2 p1 p2).bind fun r1 =>
  (oI 12 43 r1.2 (some t)).bind fun v3 =>
  if v3 = 0 then (
  fX12_weight_b25 N t r1.2 r1.1 (some t))
  else if r1.1 = (-2000000000) then (
  fX12_weight_b26 N t r1.2 r1.1 (some t) 1)
  else fX12_weight_b25 N t r1.2 r1.1 (some t)
set_option maxHeartbeats 4000000 in
set_option maxRecDepth 20000 in
theorem kX12_weight (l : Launch) (G : Gl) {N : Nat} {h : Hs} {t : Nat} {p1 : Int32} {p2 : Int32} {r : Int32 × Hs} (hf : fX12_weight N h t p1 p2 = some r) : CT l G yX12_weight cX12_weight 4 (some .int) rmX12_weight [.inr (some t), .inl p1, .inl p2] h (some (.inl r.1)) r.2 := by
  refine mk_CT (by decide) (Nat.le_of_ble_eq_true rfl) ?_
  intro p e s m args below meth c C hret hin
  unfold fX12_weight at hf
  refine r_aload_n C dX12_weight_0 rfl ?_
  refine r_iload_n C dX12_weight_1 rfl ?_
  refine r_iload_n C dX12_weight_2 rfl ?_
  obtain ⟨a2, ea2, hf⟩ := bS hf
  obtain ⟨r1, er1, hf⟩ := bS hf
  refine r_invV1 (As := [.inl p1, .inl p2]) (ci := 12) C dX12_weight_3 mcX12_weighNow wd_1249 wd_1251 wp_38 rfl rfl (by decide) ⟨by decide, by decide⟩ ⟨by decide, by decide⟩ rfl (Nat.le_of_ble_eq_true rfl) ea2 (kX12_weighNow l G er1) ?_
  refine r_istore_n C dX12_weight_6 (by decide) ?_
  refine r_aload_n C dX12_weight_7 rfl ?_
  refine r_aload_n C dX12_weight_8 rfl ?_
  obtain ⟨v3, ev3, hf⟩ := bS hf
  refine r_getI C dX12_weight_9 fl_X12_162 rfl ev3 ?_
  refine r_if_eq (tgt := 25) C dX12_weight_12 (by decide) (fun hc => ?_) (fun hc => ?_)
  · have hf := ifT hf hc
    exact V.sub (wX12_weight_b25 C hret hf) (LW_s rfl (LW_n (LW_n (LW_s rfl (LW_e)))))
  · have hf := ifF hf hc
    refine r_iload_n C dX12_weight_15 rfl ?_
    refine r_ldc C dX12_weight_16 wd_1220 ?_
    refine r_icmp_ne (tgt := 25) C dX12_weight_18 (by decide) (fun hc => ?_) (fun hc => ?_)
    · have hf := ifF hf hc
      exact V.sub (wX12_weight_b25 C hret hf) (LW_s rfl (LW_n (LW_n (LW_s rfl (LW_e)))))
    · have hf := ifT hf hc
      refine r_iconst (v := 1) C dX12_weight_21 (by decide) ?_
      refine r_goto (tgt := 26) C dX12_weight_22 (by decide) ?_
      exact V.sub (wX12_weight_b26 C hret hf) (LW_s rfl (LW_n (LW_n (LW_s rfl (LW_e)))))

theorem dgX12_bound_0 : (decode cX12_bound 0 = .ok (.iload_n 1, 1)) ∧ (decode cX12_bound 1 = .ok (.iconst 0, 1)) ∧ (decode cX12_bound 2 = .ok (.ldc 59, 2)) ∧ (decode cX12_bound 4 = .ok (.invokestatic 149, 3)) ∧ (decode cX12_bound 7 = .ok (.ifCond .ne 5, 3)) ∧ True := dkW [(0, .iload_n 1, 1), (1, .iconst 0, 1), (2, .ldc 59, 2), (4, .invokestatic 149, 3), (7, .ifCond .ne 5, 3)] 0 (by decide +kernel)
theorem dX12_bound_0 : decode cX12_bound 0 = .ok (.iload_n 1, 1) := dgX12_bound_0.1
theorem dX12_bound_1 : decode cX12_bound 1 = .ok (.iconst 0, 1) := dgX12_bound_0.2.1
theorem dX12_bound_2 : decode cX12_bound 2 = .ok (.ldc 59, 2) := dgX12_bound_0.2.2.1
theorem dX12_bound_4 : decode cX12_bound 4 = .ok (.invokestatic 149, 3) := dgX12_bound_0.2.2.2.1
theorem dX12_bound_7 : decode cX12_bound 7 = .ok (.ifCond .ne 5, 3) := dgX12_bound_0.2.2.2.2.1
theorem dX12_bound_10 : decode cX12_bound 10 = .ok (.iconst (-1), 1) := by decide +kernel
theorem dgX12_bound_11 : (decode cX12_bound 11 = .ok (.ireturn, 1)) ∧ (decode cX12_bound 12 = .ok (.aload_n 0, 1)) ∧ (decode cX12_bound 13 = .ok (.getfield 60, 3)) ∧ (decode cX12_bound 16 = .ok (.istore_n 2, 1)) ∧ (decode cX12_bound 17 = .ok (.aload_n 0, 1)) ∧ (decode cX12_bound 18 = .ok (.iload_n 1, 1)) ∧ (decode cX12_bound 19 = .ok (.putfield 60, 3)) ∧ (decode cX12_bound 22 = .ok (.iload_n 2, 1)) ∧ (decode cX12_bound 23 = .ok (.ireturn, 1)) ∧ True := dkW [(11, .ireturn, 1), (12, .aload_n 0, 1), (13, .getfield 60, 3), (16, .istore_n 2, 1), (17, .aload_n 0, 1), (18, .iload_n 1, 1), (19, .putfield 60, 3), (22, .iload_n 2, 1), (23, .ireturn, 1)] 11 (by decide +kernel)
theorem dX12_bound_11 : decode cX12_bound 11 = .ok (.ireturn, 1) := dgX12_bound_11.1
theorem dX12_bound_12 : decode cX12_bound 12 = .ok (.aload_n 0, 1) := dgX12_bound_11.2.1
theorem dX12_bound_13 : decode cX12_bound 13 = .ok (.getfield 60, 3) := dgX12_bound_11.2.2.1
theorem dX12_bound_16 : decode cX12_bound 16 = .ok (.istore_n 2, 1) := dgX12_bound_11.2.2.2.1
theorem dX12_bound_17 : decode cX12_bound 17 = .ok (.aload_n 0, 1) := dgX12_bound_11.2.2.2.2.1
theorem dX12_bound_18 : decode cX12_bound 18 = .ok (.iload_n 1, 1) := dgX12_bound_11.2.2.2.2.2.1
theorem dX12_bound_19 : decode cX12_bound 19 = .ok (.putfield 60, 3) := dgX12_bound_11.2.2.2.2.2.2.1
theorem dX12_bound_22 : decode cX12_bound 22 = .ok (.iload_n 2, 1) := dgX12_bound_11.2.2.2.2.2.2.2.1
theorem dX12_bound_23 : decode cX12_bound 23 = .ok (.ireturn, 1) := dgX12_bound_11.2.2.2.2.2.2.2.2.1
abbrev rmX12_bound : Room := { frames := 1, cells := 0, slots := 0, locals := 22 }
noncomputable def fX12_bound (N : Nat) (h : Hs) (t : Nat) (p1 : Int32) : Option (Int32 × Hs) :=
  (fX12_in N h p1 0 99999).bind fun r1 =>
  if r1.1 = 0 then (
  some ((-1), r1.2))
  else (oI 12 20 r1.2 (some t)).bind fun v2 =>
  (qI 12 20 r1.2 (some t) p1).bind fun h3 =>
  some (v2, h3)
set_option maxHeartbeats 4000000 in
set_option maxRecDepth 20000 in
theorem kX12_bound (l : Launch) (G : Gl) {N : Nat} {h : Hs} {t : Nat} {p1 : Int32} {r : Int32 × Hs} (hf : fX12_bound N h t p1 = some r) : CT l G yX12_bound cX12_bound 3 (some .int) rmX12_bound [.inr (some t), .inl p1] h (some (.inl r.1)) r.2 := by
  refine mk_CT (by decide) (Nat.le_of_ble_eq_true rfl) ?_
  intro p e s m args below meth c C hret hin
  unfold fX12_bound at hf
  refine r_iload_n C dX12_bound_0 rfl ?_
  refine r_iconst (v := 0) C dX12_bound_1 (by decide) ?_
  refine r_ldc C dX12_bound_2 wd_983 ?_
  obtain ⟨r1, er1, hf⟩ := bS hf
  refine r_invS1 (As := [.inl p1, .inl 0, .inl 99999]) C dX12_bound_4 mcX12_in wd_1185 wd_1186 ⟨by decide, by decide⟩ ⟨by decide, by decide⟩ rfl (Nat.le_of_ble_eq_true rfl) (kX12_in l G er1) ?_
  refine r_if_ne (tgt := 12) C dX12_bound_7 (by decide) (fun hc => ?_) (fun hc => ?_)
  · have hf := ifF hf hc
    refine r_aload_n C dX12_bound_12 rfl ?_
    obtain ⟨v2, ev2, hf⟩ := bS hf
    refine r_getI C dX12_bound_13 fl_X12_60 rfl ev2 ?_
    refine r_istore_n C dX12_bound_16 (by decide) ?_
    refine r_aload_n C dX12_bound_17 rfl ?_
    refine r_iload_n C dX12_bound_18 rfl ?_
    obtain ⟨h3, eh3, hf⟩ := bS hf
    refine r_putI C dX12_bound_19 fl_X12_60 (Or.inl fn_12_20) rfl eh3 ?_
    refine r_iload_n C dX12_bound_22 rfl ?_
    exact r_iretF C dX12_bound_23 hret hf (by decide) (by decide)
  · have hf := ifT hf hc
    refine r_iconst (v := -1) C dX12_bound_10 (by decide) ?_
    exact r_iretF C dX12_bound_11 hret hf (by decide) (by decide)

theorem dgX12_pull_0 : (decode cX12_pull 0 = .ok (.iconst 0, 1)) ∧ (decode cX12_pull 1 = .ok (.istore_n 1, 1)) ∧ (decode cX12_pull 2 = .ok (.iconst 0, 1)) ∧ (decode cX12_pull 3 = .ok (.istore_n 2, 1)) ∧ (decode cX12_pull 4 = .ok (.iload_n 2, 1)) ∧ (decode cX12_pull 5 = .ok (.bipush 20, 2)) ∧ (decode cX12_pull 7 = .ok (.if_icmp .ge 18, 3)) ∧ (decode cX12_pull 10 = .ok (.iload_n 1, 1)) ∧ (decode cX12_pull 11 = .ok (.aload_n 0, 1)) ∧ (decode cX12_pull 12 = .ok (.getfield 56, 3)) ∧ (decode cX12_pull 15 = .ok (.iload_n 2, 1)) ∧ (decode cX12_pull 16 = .ok (.iaload, 1)) ∧ True := dkW [(0, .iconst 0, 1), (1, .istore_n 1, 1), (2, .iconst 0, 1), (3, .istore_n 2, 1), (4, .iload_n 2, 1), (5, .bipush 20, 2), (7, .if_icmp .ge 18, 3), (10, .iload_n 1, 1), (11, .aload_n 0, 1), (12, .getfield 56, 3), (15, .iload_n 2, 1), (16, .iaload, 1)] 0 (by decide +kernel)
theorem dX12_pull_0 : decode cX12_pull 0 = .ok (.iconst 0, 1) := dgX12_pull_0.1
theorem dX12_pull_1 : decode cX12_pull 1 = .ok (.istore_n 1, 1) := dgX12_pull_0.2.1
theorem dX12_pull_2 : decode cX12_pull 2 = .ok (.iconst 0, 1) := dgX12_pull_0.2.2.1
theorem dX12_pull_3 : decode cX12_pull 3 = .ok (.istore_n 2, 1) := dgX12_pull_0.2.2.2.1
theorem dX12_pull_4 : decode cX12_pull 4 = .ok (.iload_n 2, 1) := dgX12_pull_0.2.2.2.2.1
theorem dX12_pull_5 : decode cX12_pull 5 = .ok (.bipush 20, 2) := dgX12_pull_0.2.2.2.2.2.1
theorem dX12_pull_7 : decode cX12_pull 7 = .ok (.if_icmp .ge 18, 3) := dgX12_pull_0.2.2.2.2.2.2.1
theorem dX12_pull_10 : decode cX12_pull 10 = .ok (.iload_n 1, 1) := dgX12_pull_0.2.2.2.2.2.2.2.1
theorem dX12_pull_11 : decode cX12_pull 11 = .ok (.aload_n 0, 1) := dgX12_pull_0.2.2.2.2.2.2.2.2.1
theorem dX12_pull_12 : decode cX12_pull 12 = .ok (.getfield 56, 3) := dgX12_pull_0.2.2.2.2.2.2.2.2.2.1
theorem dX12_pull_15 : decode cX12_pull 15 = .ok (.iload_n 2, 1) := dgX12_pull_0.2.2.2.2.2.2.2.2.2.2.1
theorem dX12_pull_16 : decode cX12_pull 16 = .ok (.iaload, 1) := dgX12_pull_0.2.2.2.2.2.2.2.2.2.2.2.1
theorem dgX12_pull_17 : (decode cX12_pull 17 = .ok (.iadd, 1)) ∧ (decode cX12_pull 18 = .ok (.istore_n 1, 1)) ∧ (decode cX12_pull 19 = .ok (.iinc 2 1, 3)) ∧ (decode cX12_pull 22 = .ok (.goto (-18), 3)) ∧ (decode cX12_pull 25 = .ok (.iconst 0, 1)) ∧ (decode cX12_pull 26 = .ok (.istore_n 2, 1)) ∧ (decode cX12_pull 27 = .ok (.iload_n 2, 1)) ∧ (decode cX12_pull 28 = .ok (.aload_n 0, 1)) ∧ (decode cX12_pull 29 = .ok (.getfield 153, 3)) ∧ (decode cX12_pull 32 = .ok (.if_icmp .ge 84, 3)) ∧ (decode cX12_pull 35 = .ok (.aload_n 0, 1)) ∧ (decode cX12_pull 36 = .ok (.getfield 46, 3)) ∧ True := dkW [(17, .iadd, 1), (18, .istore_n 1, 1), (19, .iinc 2 1, 3), (22, .goto (-18), 3), (25, .iconst 0, 1), (26, .istore_n 2, 1), (27, .iload_n 2, 1), (28, .aload_n 0, 1), (29, .getfield 153, 3), (32, .if_icmp .ge 84, 3), (35, .aload_n 0, 1), (36, .getfield 46, 3)] 17 (by decide +kernel)
theorem dX12_pull_17 : decode cX12_pull 17 = .ok (.iadd, 1) := dgX12_pull_17.1
theorem dX12_pull_18 : decode cX12_pull 18 = .ok (.istore_n 1, 1) := dgX12_pull_17.2.1
theorem dX12_pull_19 : decode cX12_pull 19 = .ok (.iinc 2 1, 3) := dgX12_pull_17.2.2.1
theorem dX12_pull_22 : decode cX12_pull 22 = .ok (.goto (-18), 3) := dgX12_pull_17.2.2.2.1
theorem dX12_pull_25 : decode cX12_pull 25 = .ok (.iconst 0, 1) := dgX12_pull_17.2.2.2.2.1
theorem dX12_pull_26 : decode cX12_pull 26 = .ok (.istore_n 2, 1) := dgX12_pull_17.2.2.2.2.2.1
theorem dX12_pull_27 : decode cX12_pull 27 = .ok (.iload_n 2, 1) := dgX12_pull_17.2.2.2.2.2.2.1
theorem dX12_pull_28 : decode cX12_pull 28 = .ok (.aload_n 0, 1) := dgX12_pull_17.2.2.2.2.2.2.2.1
theorem dX12_pull_29 : decode cX12_pull 29 = .ok (.getfield 153, 3) := dgX12_pull_17.2.2.2.2.2.2.2.2.1
theorem dX12_pull_32 : decode cX12_pull 32 = .ok (.if_icmp .ge 84, 3) := dgX12_pull_17.2.2.2.2.2.2.2.2.2.1
theorem dX12_pull_35 : decode cX12_pull 35 = .ok (.aload_n 0, 1) := dgX12_pull_17.2.2.2.2.2.2.2.2.2.2.1
theorem dX12_pull_36 : decode cX12_pull 36 = .ok (.getfield 46, 3) := dgX12_pull_17.2.2.2.2.2.2.2.2.2.2.2.1
theorem dgX12_pull_39 : (decode cX12_pull 39 = .ok (.iload_n 2, 1)) ∧ (decode cX12_pull 40 = .ok (.iaload, 1)) ∧ (decode cX12_pull 41 = .ok (.ifCond .ge 6, 3)) ∧ (decode cX12_pull 44 = .ok (.goto 66, 3)) ∧ (decode cX12_pull 47 = .ok (.aload_n 0, 1)) ∧ (decode cX12_pull 48 = .ok (.getfield 34, 3)) ∧ (decode cX12_pull 51 = .ok (.iload_n 2, 1)) ∧ (decode cX12_pull 52 = .ok (.iaload, 1)) ∧ (decode cX12_pull 53 = .ok (.istore_n 3, 1)) ∧ (decode cX12_pull 54 = .ok (.iload_n 1, 1)) ∧ (decode cX12_pull 55 = .ok (.aload_n 0, 1)) ∧ (decode cX12_pull 56 = .ok (.getfield 16, 3)) ∧ True := dkW [(39, .iload_n 2, 1), (40, .iaload, 1), (41, .ifCond .ge 6, 3), (44, .goto 66, 3), (47, .aload_n 0, 1), (48, .getfield 34, 3), (51, .iload_n 2, 1), (52, .iaload, 1), (53, .istore_n 3, 1), (54, .iload_n 1, 1), (55, .aload_n 0, 1), (56, .getfield 16, 3)] 39 (by decide +kernel)
theorem dX12_pull_39 : decode cX12_pull 39 = .ok (.iload_n 2, 1) := dgX12_pull_39.1
theorem dX12_pull_40 : decode cX12_pull 40 = .ok (.iaload, 1) := dgX12_pull_39.2.1
theorem dX12_pull_41 : decode cX12_pull 41 = .ok (.ifCond .ge 6, 3) := dgX12_pull_39.2.2.1
theorem dX12_pull_44 : decode cX12_pull 44 = .ok (.goto 66, 3) := dgX12_pull_39.2.2.2.1
theorem dX12_pull_47 : decode cX12_pull 47 = .ok (.aload_n 0, 1) := dgX12_pull_39.2.2.2.2.1
theorem dX12_pull_48 : decode cX12_pull 48 = .ok (.getfield 34, 3) := dgX12_pull_39.2.2.2.2.2.1
theorem dX12_pull_51 : decode cX12_pull 51 = .ok (.iload_n 2, 1) := dgX12_pull_39.2.2.2.2.2.2.1
theorem dX12_pull_52 : decode cX12_pull 52 = .ok (.iaload, 1) := dgX12_pull_39.2.2.2.2.2.2.2.1
theorem dX12_pull_53 : decode cX12_pull 53 = .ok (.istore_n 3, 1) := dgX12_pull_39.2.2.2.2.2.2.2.2.1
theorem dX12_pull_54 : decode cX12_pull 54 = .ok (.iload_n 1, 1) := dgX12_pull_39.2.2.2.2.2.2.2.2.2.1
theorem dX12_pull_55 : decode cX12_pull 55 = .ok (.aload_n 0, 1) := dgX12_pull_39.2.2.2.2.2.2.2.2.2.2.1
theorem dX12_pull_56 : decode cX12_pull 56 = .ok (.getfield 16, 3) := dgX12_pull_39.2.2.2.2.2.2.2.2.2.2.2.1
theorem dgX12_pull_59 : (decode cX12_pull 59 = .ok (.iload_n 3, 1)) ∧ (decode cX12_pull 60 = .ok (.iaload, 1)) ∧ (decode cX12_pull 61 = .ok (.aload_n 0, 1)) ∧ (decode cX12_pull 62 = .ok (.getfield 31, 3)) ∧ (decode cX12_pull 65 = .ok (.aload_n 0, 1)) ∧ (decode cX12_pull 66 = .ok (.getfield 46, 3)) ∧ (decode cX12_pull 69 = .ok (.iload_n 2, 1)) ∧ (decode cX12_pull 70 = .ok (.iaload, 1)) ∧ (decode cX12_pull 71 = .ok (.iaload, 1)) ∧ (decode cX12_pull 72 = .ok (.imul, 1)) ∧ (decode cX12_pull 73 = .ok (.aload_n 0, 1)) ∧ (decode cX12_pull 74 = .ok (.getfield 37, 3)) ∧ True := dkW [(59, .iload_n 3, 1), (60, .iaload, 1), (61, .aload_n 0, 1), (62, .getfield 31, 3), (65, .aload_n 0, 1), (66, .getfield 46, 3), (69, .iload_n 2, 1), (70, .iaload, 1), (71, .iaload, 1), (72, .imul, 1), (73, .aload_n 0, 1), (74, .getfield 37, 3)] 59 (by decide +kernel)
theorem dX12_pull_59 : decode cX12_pull 59 = .ok (.iload_n 3, 1) := dgX12_pull_59.1
theorem dX12_pull_60 : decode cX12_pull 60 = .ok (.iaload, 1) := dgX12_pull_59.2.1
theorem dX12_pull_61 : decode cX12_pull 61 = .ok (.aload_n 0, 1) := dgX12_pull_59.2.2.1
theorem dX12_pull_62 : decode cX12_pull 62 = .ok (.getfield 31, 3) := dgX12_pull_59.2.2.2.1
theorem dX12_pull_65 : decode cX12_pull 65 = .ok (.aload_n 0, 1) := dgX12_pull_59.2.2.2.2.1
theorem dX12_pull_66 : decode cX12_pull 66 = .ok (.getfield 46, 3) := dgX12_pull_59.2.2.2.2.2.1
theorem dX12_pull_69 : decode cX12_pull 69 = .ok (.iload_n 2, 1) := dgX12_pull_59.2.2.2.2.2.2.1
theorem dX12_pull_70 : decode cX12_pull 70 = .ok (.iaload, 1) := dgX12_pull_59.2.2.2.2.2.2.2.1
theorem dX12_pull_71 : decode cX12_pull 71 = .ok (.iaload, 1) := dgX12_pull_59.2.2.2.2.2.2.2.2.1
theorem dX12_pull_72 : decode cX12_pull 72 = .ok (.imul, 1) := dgX12_pull_59.2.2.2.2.2.2.2.2.2.1
theorem dX12_pull_73 : decode cX12_pull 73 = .ok (.aload_n 0, 1) := dgX12_pull_59.2.2.2.2.2.2.2.2.2.2.1
theorem dX12_pull_74 : decode cX12_pull 74 = .ok (.getfield 37, 3) := dgX12_pull_59.2.2.2.2.2.2.2.2.2.2.2.1
theorem dgX12_pull_77 : (decode cX12_pull 77 = .ok (.iload_n 2, 1)) ∧ (decode cX12_pull 78 = .ok (.iaload, 1)) ∧ (decode cX12_pull 79 = .ok (.idiv, 1)) ∧ (decode cX12_pull 80 = .ok (.aload_n 0, 1)) ∧ (decode cX12_pull 81 = .ok (.getfield 40, 3)) ∧ (decode cX12_pull 84 = .ok (.iload_n 2, 1)) ∧ (decode cX12_pull 85 = .ok (.iaload, 1)) ∧ (decode cX12_pull 86 = .ok (.imul, 1)) ∧ (decode cX12_pull 87 = .ok (.aload_n 0, 1)) ∧ (decode cX12_pull 88 = .ok (.getfield 16, 3)) ∧ (decode cX12_pull 91 = .ok (.iload_n 3, 1)) ∧ (decode cX12_pull 92 = .ok (.iaload, 1)) ∧ True := dkW [(77, .iload_n 2, 1), (78, .iaload, 1), (79, .idiv, 1), (80, .aload_n 0, 1), (81, .getfield 40, 3), (84, .iload_n 2, 1), (85, .iaload, 1), (86, .imul, 1), (87, .aload_n 0, 1), (88, .getfield 16, 3), (91, .iload_n 3, 1), (92, .iaload, 1)] 77 (by decide +kernel)
theorem dX12_pull_77 : decode cX12_pull 77 = .ok (.iload_n 2, 1) := dgX12_pull_77.1
theorem dX12_pull_78 : decode cX12_pull 78 = .ok (.iaload, 1) := dgX12_pull_77.2.1
theorem dX12_pull_79 : decode cX12_pull 79 = .ok (.idiv, 1) := dgX12_pull_77.2.2.1
theorem dX12_pull_80 : decode cX12_pull 80 = .ok (.aload_n 0, 1) := dgX12_pull_77.2.2.2.1
theorem dX12_pull_81 : decode cX12_pull 81 = .ok (.getfield 40, 3) := dgX12_pull_77.2.2.2.2.1
theorem dX12_pull_84 : decode cX12_pull 84 = .ok (.iload_n 2, 1) := dgX12_pull_77.2.2.2.2.2.1
theorem dX12_pull_85 : decode cX12_pull 85 = .ok (.iaload, 1) := dgX12_pull_77.2.2.2.2.2.2.1
theorem dX12_pull_86 : decode cX12_pull 86 = .ok (.imul, 1) := dgX12_pull_77.2.2.2.2.2.2.2.1
theorem dX12_pull_87 : decode cX12_pull 87 = .ok (.aload_n 0, 1) := dgX12_pull_77.2.2.2.2.2.2.2.2.1
theorem dX12_pull_88 : decode cX12_pull 88 = .ok (.getfield 16, 3) := dgX12_pull_77.2.2.2.2.2.2.2.2.2.1
theorem dX12_pull_91 : decode cX12_pull 91 = .ok (.iload_n 3, 1) := dgX12_pull_77.2.2.2.2.2.2.2.2.2.2.1
theorem dX12_pull_92 : decode cX12_pull 92 = .ok (.iaload, 1) := dgX12_pull_77.2.2.2.2.2.2.2.2.2.2.2.1
theorem dgX12_pull_93 : (decode cX12_pull 93 = .ok (.aload_n 0, 1)) ∧ (decode cX12_pull 94 = .ok (.getfield 19, 3)) ∧ (decode cX12_pull 97 = .ok (.iload_n 3, 1)) ∧ (decode cX12_pull 98 = .ok (.iaload, 1)) ∧ (decode cX12_pull 99 = .ok (.aload_n 0, 1)) ∧ (decode cX12_pull 100 = .ok (.getfield 28, 3)) ∧ (decode cX12_pull 103 = .ok (.iload_n 3, 1)) ∧ (decode cX12_pull 104 = .ok (.iaload, 1)) ∧ (decode cX12_pull 105 = .ok (.isub, 1)) ∧ (decode cX12_pull 106 = .ok (.imul, 1)) ∧ (decode cX12_pull 107 = .ok (.iadd, 1)) ∧ (decode cX12_pull 108 = .ok (.iadd, 1)) ∧ True := dkW [(93, .aload_n 0, 1), (94, .getfield 19, 3), (97, .iload_n 3, 1), (98, .iaload, 1), (99, .aload_n 0, 1), (100, .getfield 28, 3), (103, .iload_n 3, 1), (104, .iaload, 1), (105, .isub, 1), (106, .imul, 1), (107, .iadd, 1), (108, .iadd, 1)] 93 (by decide +kernel)
theorem dX12_pull_93 : decode cX12_pull 93 = .ok (.aload_n 0, 1) := dgX12_pull_93.1
theorem dX12_pull_94 : decode cX12_pull 94 = .ok (.getfield 19, 3) := dgX12_pull_93.2.1
theorem dX12_pull_97 : decode cX12_pull 97 = .ok (.iload_n 3, 1) := dgX12_pull_93.2.2.1
theorem dX12_pull_98 : decode cX12_pull 98 = .ok (.iaload, 1) := dgX12_pull_93.2.2.2.1
theorem dX12_pull_99 : decode cX12_pull 99 = .ok (.aload_n 0, 1) := dgX12_pull_93.2.2.2.2.1
theorem dX12_pull_100 : decode cX12_pull 100 = .ok (.getfield 28, 3) := dgX12_pull_93.2.2.2.2.2.1
theorem dX12_pull_103 : decode cX12_pull 103 = .ok (.iload_n 3, 1) := dgX12_pull_93.2.2.2.2.2.2.1
theorem dX12_pull_104 : decode cX12_pull 104 = .ok (.iaload, 1) := dgX12_pull_93.2.2.2.2.2.2.2.1
theorem dX12_pull_105 : decode cX12_pull 105 = .ok (.isub, 1) := dgX12_pull_93.2.2.2.2.2.2.2.2.1
theorem dX12_pull_106 : decode cX12_pull 106 = .ok (.imul, 1) := dgX12_pull_93.2.2.2.2.2.2.2.2.2.1
theorem dX12_pull_107 : decode cX12_pull 107 = .ok (.iadd, 1) := dgX12_pull_93.2.2.2.2.2.2.2.2.2.2.1
theorem dX12_pull_108 : decode cX12_pull 108 = .ok (.iadd, 1) := dgX12_pull_93.2.2.2.2.2.2.2.2.2.2.2.1
theorem dgX12_pull_109 : (decode cX12_pull 109 = .ok (.istore_n 1, 1)) ∧ (decode cX12_pull 110 = .ok (.iinc 2 1, 3)) ∧ (decode cX12_pull 113 = .ok (.goto (-86), 3)) ∧ (decode cX12_pull 116 = .ok (.iload_n 1, 1)) ∧ (decode cX12_pull 117 = .ok (.ireturn, 1)) ∧ True := dkW [(109, .istore_n 1, 1), (110, .iinc 2 1, 3), (113, .goto (-86), 3), (116, .iload_n 1, 1), (117, .ireturn, 1)] 109 (by decide +kernel)
theorem dX12_pull_109 : decode cX12_pull 109 = .ok (.istore_n 1, 1) := dgX12_pull_109.1
theorem dX12_pull_110 : decode cX12_pull 110 = .ok (.iinc 2 1, 3) := dgX12_pull_109.2.1
theorem dX12_pull_113 : decode cX12_pull 113 = .ok (.goto (-86), 3) := dgX12_pull_109.2.2.1
theorem dX12_pull_116 : decode cX12_pull 116 = .ok (.iload_n 1, 1) := dgX12_pull_109.2.2.2.1
theorem dX12_pull_117 : decode cX12_pull 117 = .ok (.ireturn, 1) := dgX12_pull_109.2.2.2.2.1
abbrev rmX12_pull : Room := { frames := 0, cells := 0, slots := 0, locals := 0 }
noncomputable def fX12_pull_b110 (N : Nat) (g27 : Hs → Int32 → Int32 → Option (Int32 × Hs)) (t : Nat) (h : Hs) (x1 : Int32) (x2 : Int32) : Option (Int32 × Hs) :=
  (some (x2 + 1)).bind fun y1 =>
  g27 h x1 y1
set_option maxHeartbeats 4000000 in
set_option maxRecDepth 20000 in
theorem wX12_pull_b110 {p : Program} {l : Launch} {e : Env} {s : State} {m : MethodId} {args : Array Value} {below : List Frame} {meth : Method} {c : Code} {G : Gl} {N : Nat} {h : Hs} {r : Int32 × Hs} {g27 : Hs → Int32 → Int32 → Option (Int32 × Hs)} {t : Nat} {x1 : Int32} {x2 : Int32} (C : Cx p s m args meth c cX12_pull RX12 4 G) (hret : meth.sig.returnType = (some .int)) (hg27 : ∀ (h : Hs) (x1 : Int32) (x2 : Int32), g27 h x1 x2 = some r → V p l e rmX12_pull s m args below meth c G 4 (MQ below (QcG G (some (.inl r.1)) r.2) args s rmX12_pull.cells rmX12_pull.slots (AG G)) h 0 0 27 [some (.inr (some t)), some (.inl x1), some (.inl x2), none] []) (hf : fX12_pull_b110 N g27 t h x1 x2 = some r) : V p l e rmX12_pull s m args below meth c G 4 (MQ below (QcG G (some (.inl r.1)) r.2) args s rmX12_pull.cells rmX12_pull.slots (AG G)) h 0 0 110 [some (.inr (some t)), some (.inl x1), some (.inl x2), none] [] := by
  unfold fX12_pull_b110 at hf
  obtain ⟨y1, ey1, hf⟩ := bS hf
  refine r_iincE (v := 1) C dX12_pull_110 rfl (by decide) (by decide) ey1 ?_
  refine r_goto (tgt := 27) C dX12_pull_113 (by decide) ?_
  exact V.sub (hg27 _ _ _ hf) (LW_s rfl (LW_s rfl (LW_s rfl (LW_n (LW_e)))))
noncomputable def fX12_pull_b27_body (N : Nat)  (g27 : Hs → Int32 → Int32 → Option (Int32 × Hs)) (t : Nat) (h : Hs) (x1 : Int32) (x2 : Int32) : Option (Int32 × Hs) :=
  (oI 12 11 h (some t)).bind fun v1 =>
  if v1 ≤ x2 then (
  some (x1, h))
  else (oR 12 16 h (some t)).bind fun o2 =>
  (lA 20 h o2 x2).bind fun v3 =>
  if 0 ≤ v3 then (
  (oR 12 12 h (some t)).bind fun o4 =>
  (lA 20 h o4 x2).bind fun v5 =>
  (oR 12 4 h (some t)).bind fun o6 =>
  (lA 20 h o6 v5).bind fun v7 =>
  (oR 12 10 h (some t)).bind fun o8 =>
  (oR 12 16 h (some t)).bind fun o9 =>
  (lA 20 h o9 x2).bind fun v10 =>
  (lA 20 h o8 v10).bind fun v11 =>
  (oR 12 13 h (some t)).bind fun o12 =>
  (lA 20 h o12 x2).bind fun v13 =>
  (dv (v7 * v11) v13).bind fun v14 =>
  (oR 12 14 h (some t)).bind fun o15 =>
  (lA 20 h o15 x2).bind fun v16 =>
  (oR 12 4 h (some t)).bind fun o17 =>
  (lA 20 h o17 v5).bind fun v18 =>
  (oR 12 5 h (some t)).bind fun o19 =>
  (lA 20 h o19 v5).bind fun v20 =>
  (oR 12 8 h (some t)).bind fun o21 =>
  (lA 20 h o21 v5).bind fun v22 =>
  (some (x1 + ((v14 * v16) + (v18 * (v20 - v22))))).bind fun y23 =>
  fX12_pull_b110 N g27 t h y23 x2)
  else fX12_pull_b110 N g27 t h x1 x2
noncomputable def fX12_pull_b27 (N : Nat)  (t : Nat) (n : Nat) : Hs → Int32 → Int32 → Option (Int32 × Hs) := lp (fun _ _ _ => none) (fun g h x1 x2 => fX12_pull_b27_body N  g t h x1 x2) n
set_option maxHeartbeats 4000000 in
set_option maxRecDepth 20000 in
theorem wX12_pull_b27_body {p : Program} {l : Launch} {e : Env} {s : State} {m : MethodId} {args : Array Value} {below : List Frame} {meth : Method} {c : Code} {G : Gl} {N : Nat} {h : Hs} {r : Int32 × Hs}  {g27 : Hs → Int32 → Int32 → Option (Int32 × Hs)} {t : Nat} {x1 : Int32} {x2 : Int32} (C : Cx p s m args meth c cX12_pull RX12 4 G) (hret : meth.sig.returnType = (some .int))  (hg27 : ∀ (h : Hs) (x1 : Int32) (x2 : Int32), g27 h x1 x2 = some r → V p l e rmX12_pull s m args below meth c G 4 (MQ below (QcG G (some (.inl r.1)) r.2) args s rmX12_pull.cells rmX12_pull.slots (AG G)) h 0 0 27 [some (.inr (some t)), some (.inl x1), some (.inl x2), none] []) (hf : fX12_pull_b27_body N  g27 t h x1 x2 = some r) : V p l e rmX12_pull s m args below meth c G 4 (MQ below (QcG G (some (.inl r.1)) r.2) args s rmX12_pull.cells rmX12_pull.slots (AG G)) h 0 0 27 [some (.inr (some t)), some (.inl x1), some (.inl x2), none] [] := by
  unfold fX12_pull_b27_body at hf
  refine r_iload_n C dX12_pull_27 rfl ?_
  refine r_aload_n C dX12_pull_28 rfl ?_
  obtain ⟨v1, ev1, hf⟩ := bS hf
  refine r_getI C dX12_pull_29 fl_X12_153 rfl ev1 ?_
  refine r_icmp_ge (tgt := 116) C dX12_pull_32 (by decide) (fun hc => ?_) (fun hc => ?_)
  · have hf := ifT hf hc
    refine r_iload_n C dX12_pull_116 rfl ?_
    exact r_iretF C dX12_pull_117 hret hf (by decide) (by decide)
  · have hf := ifF hf hc
    refine r_aload_n C dX12_pull_35 rfl ?_
    obtain ⟨o2, eo2, hf⟩ := bS hf
    refine r_getR C dX12_pull_36 fl_X12_46 rfl eo2 ?_
    refine r_iload_n C dX12_pull_39 rfl ?_
    obtain ⟨v3, ev3, hf⟩ := bS hf
    refine r_iald C dX12_pull_40 ev3 ?_
    refine r_if_ge (tgt := 47) C dX12_pull_41 (by decide) (fun hc => ?_) (fun hc => ?_)
    · have hf := ifT hf hc
      refine r_aload_n C dX12_pull_47 rfl ?_
      obtain ⟨o4, eo4, hf⟩ := bS hf
      refine r_getR C dX12_pull_48 fl_X12_34 rfl eo4 ?_
      refine r_iload_n C dX12_pull_51 rfl ?_
      obtain ⟨v5, ev5, hf⟩ := bS hf
      refine r_iald C dX12_pull_52 ev5 ?_
      refine r_istore_n C dX12_pull_53 (by decide) ?_
      refine r_iload_n C dX12_pull_54 rfl ?_
      refine r_aload_n C dX12_pull_55 rfl ?_
      obtain ⟨o6, eo6, hf⟩ := bS hf
      refine r_getR C dX12_pull_56 fl_X12_16 rfl eo6 ?_
      refine r_iload_n C dX12_pull_59 rfl ?_
      obtain ⟨v7, ev7, hf⟩ := bS hf
      refine r_iald C dX12_pull_60 ev7 ?_
      refine r_aload_n C dX12_pull_61 rfl ?_
      obtain ⟨o8, eo8, hf⟩ := bS hf
      refine r_getR C dX12_pull_62 fl_X12_31 rfl eo8 ?_
      refine r_aload_n C dX12_pull_65 rfl ?_
      obtain ⟨o9, eo9, hf⟩ := bS hf
      refine r_getR C dX12_pull_66 fl_X12_46 rfl eo9 ?_
      refine r_iload_n C dX12_pull_69 rfl ?_
      obtain ⟨v10, ev10, hf⟩ := bS hf
      refine r_iald C dX12_pull_70 ev10 ?_
      obtain ⟨v11, ev11, hf⟩ := bS hf
      refine r_iald C dX12_pull_71 ev11 ?_
      refine r_imul C dX12_pull_72 ?_
      refine r_aload_n C dX12_pull_73 rfl ?_
      obtain ⟨o12, eo12, hf⟩ := bS hf
      refine r_getR C dX12_pull_74 fl_X12_37 rfl eo12 ?_
      refine r_iload_n C dX12_pull_77 rfl ?_
      obtain ⟨v13, ev13, hf⟩ := bS hf
      refine r_iald C dX12_pull_78 ev13 ?_
      obtain ⟨v14, ev14, hf⟩ := bS hf
      refine r_idiv C dX12_pull_79 ev14 ?_
      refine r_aload_n C dX12_pull_80 rfl ?_
      obtain ⟨o15, eo15, hf⟩ := bS hf
      refine r_getR C dX12_pull_81 fl_X12_40 rfl eo15 ?_
      refine r_iload_n C dX12_pull_84 rfl ?_
      obtain ⟨v16, ev16, hf⟩ := bS hf
      refine r_iald C dX12_pull_85 ev16 ?_
      refine r_imul C dX12_pull_86 ?_
      refine r_aload_n C dX12_pull_87 rfl ?_
      obtain ⟨o17, eo17, hf⟩ := bS hf
      refine r_getR C dX12_pull_88 fl_X12_16 rfl eo17 ?_
      refine r_iload_n C dX12_pull_91 rfl ?_
      obtain ⟨v18, ev18, hf⟩ := bS hf
      refine r_iald C dX12_pull_92 ev18 ?_
      refine r_aload_n C dX12_pull_93 rfl ?_
      obtain ⟨o19, eo19, hf⟩ := bS hf
      refine r_getR C dX12_pull_94 fl_X12_19 rfl eo19 ?_
      refine r_iload_n C dX12_pull_97 rfl ?_
      obtain ⟨v20, ev20, hf⟩ := bS hf
      refine r_iald C dX12_pull_98 ev20 ?_
      refine r_aload_n C dX12_pull_99 rfl ?_
      obtain ⟨o21, eo21, hf⟩ := bS hf
      refine r_getR C dX12_pull_100 fl_X12_28 rfl eo21 ?_
      refine r_iload_n C dX12_pull_103 rfl ?_
      obtain ⟨v22, ev22, hf⟩ := bS hf
      refine r_iald C dX12_pull_104 ev22 ?_
      refine r_isub C dX12_pull_105 ?_
      refine r_imul C dX12_pull_106 ?_
      refine r_iadd C dX12_pull_107 ?_
      refine r_iadd C dX12_pull_108 ?_
      obtain ⟨y23, ey23, hf⟩ := bS hf
      refine r_istore_nE C dX12_pull_109 (by decide) ey23 ?_
      exact V.sub (wX12_pull_b110 C hret hg27 hf) (LW_s rfl (LW_s rfl (LW_s rfl (LW_n (LW_e)))))
    · have hf := ifF hf hc
      refine r_goto (tgt := 110) C dX12_pull_44 (by decide) ?_
      exact V.sub (wX12_pull_b110 C hret hg27 hf) (LW_s rfl (LW_s rfl (LW_s rfl (LW_n (LW_e)))))
theorem wX12_pull_b27 {p : Program} {l : Launch} {e : Env} {s : State} {m : MethodId} {args : Array Value} {below : List Frame} {meth : Method} {c : Code} {G : Gl} {N : Nat} {r : Int32 × Hs}  {t : Nat} (C : Cx p s m args meth c cX12_pull RX12 4 G) (hret : meth.sig.returnType = (some .int))  : ∀ (n : Nat) (h : Hs) (x1 : Int32) (x2 : Int32), fX12_pull_b27 N  t n h x1 x2 = some r → V p l e rmX12_pull s m args below meth c G 4 (MQ below (QcG G (some (.inl r.1)) r.2) args s rmX12_pull.cells rmX12_pull.slots (AG G)) h 0 0 27 [some (.inr (some t)), some (.inl x1), some (.inl x2), none] [] := by
  intro n
  induction n with
  | zero => intro h x1 x2 hf; exact absurd (show (none : Option (Int32 × Hs)) = some r from hf) (fun q => by cases q)
  | succ n ih => intro h x1 x2 hf; exact wX12_pull_b27_body C hret  ih (show fX12_pull_b27_body N  (fX12_pull_b27 N  t n) t h x1 x2 = some r from hf)
noncomputable def fX12_pull_b4_body (N : Nat)  (g4 : Hs → Int32 → Int32 → Option (Int32 × Hs)) (t : Nat) (h : Hs) (x1 : Int32) (x2 : Int32) : Option (Int32 × Hs) :=
  if 20 ≤ x2 then (
  fX12_pull_b27 N t N h x1 0)
  else (oR 12 19 h (some t)).bind fun o1 =>
  (lA 20 h o1 x2).bind fun v2 =>
  (some (x1 + v2)).bind fun y3 =>
  (some (x2 + 1)).bind fun y4 =>
  g4 h y3 y4
noncomputable def fX12_pull_b4 (N : Nat)  (t : Nat) (n : Nat) : Hs → Int32 → Int32 → Option (Int32 × Hs) := lp (fun _ _ _ => none) (fun g h x1 x2 => fX12_pull_b4_body N  g t h x1 x2) n
set_option maxHeartbeats 4000000 in
set_option maxRecDepth 20000 in
theorem wX12_pull_b4_body {p : Program} {l : Launch} {e : Env} {s : State} {m : MethodId} {args : Array Value} {below : List Frame} {meth : Method} {c : Code} {G : Gl} {N : Nat} {h : Hs} {r : Int32 × Hs}  {g4 : Hs → Int32 → Int32 → Option (Int32 × Hs)} {t : Nat} {x1 : Int32} {x2 : Int32} (C : Cx p s m args meth c cX12_pull RX12 4 G) (hret : meth.sig.returnType = (some .int))  (hg4 : ∀ (h : Hs) (x1 : Int32) (x2 : Int32), g4 h x1 x2 = some r → V p l e rmX12_pull s m args below meth c G 4 (MQ below (QcG G (some (.inl r.1)) r.2) args s rmX12_pull.cells rmX12_pull.slots (AG G)) h 0 0 4 [some (.inr (some t)), some (.inl x1), some (.inl x2), none] []) (hf : fX12_pull_b4_body N  g4 t h x1 x2 = some r) : V p l e rmX12_pull s m args below meth c G 4 (MQ below (QcG G (some (.inl r.1)) r.2) args s rmX12_pull.cells rmX12_pull.slots (AG G)) h 0 0 4 [some (.inr (some t)), some (.inl x1), some (.inl x2), none] [] := by
  unfold fX12_pull_b4_body at hf
  refine r_iload_n C dX12_pull_4 rfl ?_
  refine r_bipush (v := 20) C dX12_pull_5 (by decide) ?_
  refine r_icmp_ge (tgt := 25) C dX12_pull_7 (by decide) (fun hc => ?_) (fun hc => ?_)
  · have hf := ifT hf hc
    refine r_iconst (v := 0) C dX12_pull_25 (by decide) ?_
    refine r_istore_n C dX12_pull_26 (by decide) ?_
    exact V.sub (wX12_pull_b27 C hret N _ _ _ hf) (LW_s rfl (LW_s rfl (LW_s rfl (LW_n (LW_e)))))
  · have hf := ifF hf hc
    refine r_iload_n C dX12_pull_10 rfl ?_
    refine r_aload_n C dX12_pull_11 rfl ?_
    obtain ⟨o1, eo1, hf⟩ := bS hf
    refine r_getR C dX12_pull_12 fl_X12_56 rfl eo1 ?_
    refine r_iload_n C dX12_pull_15 rfl ?_
    obtain ⟨v2, ev2, hf⟩ := bS hf
    refine r_iald C dX12_pull_16 ev2 ?_
    refine r_iadd C dX12_pull_17 ?_
    obtain ⟨y3, ey3, hf⟩ := bS hf
    refine r_istore_nE C dX12_pull_18 (by decide) ey3 ?_
    obtain ⟨y4, ey4, hf⟩ := bS hf
    refine r_iincE (v := 1) C dX12_pull_19 rfl (by decide) (by decide) ey4 ?_
    refine r_goto (tgt := 4) C dX12_pull_22 (by decide) ?_
    exact V.sub (hg4 _ _ _ hf) (LW_s rfl (LW_s rfl (LW_s rfl (LW_n (LW_e)))))
theorem wX12_pull_b4 {p : Program} {l : Launch} {e : Env} {s : State} {m : MethodId} {args : Array Value} {below : List Frame} {meth : Method} {c : Code} {G : Gl} {N : Nat} {r : Int32 × Hs}  {t : Nat} (C : Cx p s m args meth c cX12_pull RX12 4 G) (hret : meth.sig.returnType = (some .int))  : ∀ (n : Nat) (h : Hs) (x1 : Int32) (x2 : Int32), fX12_pull_b4 N  t n h x1 x2 = some r → V p l e rmX12_pull s m args below meth c G 4 (MQ below (QcG G (some (.inl r.1)) r.2) args s rmX12_pull.cells rmX12_pull.slots (AG G)) h 0 0 4 [some (.inr (some t)), some (.inl x1), some (.inl x2), none] [] := by
  intro n
  induction n with
  | zero => intro h x1 x2 hf; exact absurd (show (none : Option (Int32 × Hs)) = some r from hf) (fun q => by cases q)
  | succ n ih => intro h x1 x2 hf; exact wX12_pull_b4_body C hret  ih (show fX12_pull_b4_body N  (fX12_pull_b4 N  t n) t h x1 x2 = some r from hf)
noncomputable def fX12_pull (N : Nat) (h : Hs) (t : Nat)  : Option (Int32 × Hs) :=
  fX12_pull_b4 N t N h 0 0
set_option maxHeartbeats 4000000 in
set_option maxRecDepth 20000 in
theorem kX12_pull (l : Launch) (G : Gl) {N : Nat} {h : Hs} {t : Nat}  {r : Int32 × Hs} (hf : fX12_pull N h t  = some r) : CT l G yX12_pull cX12_pull 4 (some .int) rmX12_pull [.inr (some t)] h (some (.inl r.1)) r.2 := by
  refine mk_CT (by decide) (Nat.le_of_ble_eq_true rfl) ?_
  intro p e s m args below meth c C hret hin
  unfold fX12_pull at hf
  refine r_iconst (v := 0) C dX12_pull_0 (by decide) ?_
  refine r_istore_n C dX12_pull_1 (by decide) ?_
  refine r_iconst (v := 0) C dX12_pull_2 (by decide) ?_
  refine r_istore_n C dX12_pull_3 (by decide) ?_
  exact V.sub (wX12_pull_b4 C hret N _ _ _ hf) (LW_s rfl (LW_s rfl (LW_s rfl (LW_n (LW_e)))))
