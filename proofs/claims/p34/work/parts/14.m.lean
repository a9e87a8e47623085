theorem dgX5_advance_0 : (decode cX5_advance 0 = .ok (.iconst 0, 1)) ∧ (decode cX5_advance 1 = .ok (.istore_n 2, 1)) ∧ (decode cX5_advance 2 = .ok (.iload_n 2, 1)) ∧ (decode cX5_advance 3 = .ok (.aload_n 0, 1)) ∧ (decode cX5_advance 4 = .ok (.getfield 57, 3)) ∧ (decode cX5_advance 7 = .ok (.if_icmp .ge 19, 3)) ∧ (decode cX5_advance 10 = .ok (.aload_n 0, 1)) ∧ (decode cX5_advance 11 = .ok (.getfield 25, 3)) ∧ (decode cX5_advance 14 = .ok (.iload_n 2, 1)) ∧ (decode cX5_advance 15 = .ok (.aaload, 1)) ∧ (decode cX5_advance 16 = .ok (.iload_n 1, 1)) ∧ (decode cX5_advance 17 = .ok (.invokevirtual 160, 3)) ∧ True := dkW [(0, .iconst 0, 1), (1, .istore_n 2, 1), (2, .iload_n 2, 1), (3, .aload_n 0, 1), (4, .getfield 57, 3), (7, .if_icmp .ge 19, 3), (10, .aload_n 0, 1), (11, .getfield 25, 3), (14, .iload_n 2, 1), (15, .aaload, 1), (16, .iload_n 1, 1), (17, .invokevirtual 160, 3)] 0 (by decide +kernel)
theorem dX5_advance_0 : decode cX5_advance 0 = .ok (.iconst 0, 1) := dgX5_advance_0.1
theorem dX5_advance_1 : decode cX5_advance 1 = .ok (.istore_n 2, 1) := dgX5_advance_0.2.1
theorem dX5_advance_2 : decode cX5_advance 2 = .ok (.iload_n 2, 1) := dgX5_advance_0.2.2.1
theorem dX5_advance_3 : decode cX5_advance 3 = .ok (.aload_n 0, 1) := dgX5_advance_0.2.2.2.1
theorem dX5_advance_4 : decode cX5_advance 4 = .ok (.getfield 57, 3) := dgX5_advance_0.2.2.2.2.1
theorem dX5_advance_7 : decode cX5_advance 7 = .ok (.if_icmp .ge 19, 3) := dgX5_advance_0.2.2.2.2.2.1
theorem dX5_advance_10 : decode cX5_advance 10 = .ok (.aload_n 0, 1) := dgX5_advance_0.2.2.2.2.2.2.1
theorem dX5_advance_11 : decode cX5_advance 11 = .ok (.getfield 25, 3) := dgX5_advance_0.2.2.2.2.2.2.2.1
theorem dX5_advance_14 : decode cX5_advance 14 = .ok (.iload_n 2, 1) := dgX5_advance_0.2.2.2.2.2.2.2.2.1
theorem dX5_advance_15 : decode cX5_advance 15 = .ok (.aaload, 1) := dgX5_advance_0.2.2.2.2.2.2.2.2.2.1
theorem dX5_advance_16 : decode cX5_advance 16 = .ok (.iload_n 1, 1) := dgX5_advance_0.2.2.2.2.2.2.2.2.2.2.1
theorem dX5_advance_17 : decode cX5_advance 17 = .ok (.invokevirtual 160, 3) := dgX5_advance_0.2.2.2.2.2.2.2.2.2.2.2.1
theorem dgX5_advance_20 : (decode cX5_advance 20 = .ok (.iinc 2 1, 3)) ∧ (decode cX5_advance 23 = .ok (.goto (-21), 3)) ∧ (decode cX5_advance 26 = .ok (.aload_n 0, 1)) ∧ (decode cX5_advance 27 = .ok (.dup, 1)) ∧ (decode cX5_advance 28 = .ok (.getfield 163, 3)) ∧ (decode cX5_advance 31 = .ok (.iload_n 1, 1)) ∧ (decode cX5_advance 32 = .ok (.iadd, 1)) ∧ (decode cX5_advance 33 = .ok (.putfield 163, 3)) ∧ (decode cX5_advance 36 = .ok (.aload_n 0, 1)) ∧ (decode cX5_advance 37 = .ok (.dup, 1)) ∧ (decode cX5_advance 38 = .ok (.getfield 166, 3)) ∧ (decode cX5_advance 41 = .ok (.iload_n 1, 1)) ∧ True := dkW [(20, .iinc 2 1, 3), (23, .goto (-21), 3), (26, .aload_n 0, 1), (27, .dup, 1), (28, .getfield 163, 3), (31, .iload_n 1, 1), (32, .iadd, 1), (33, .putfield 163, 3), (36, .aload_n 0, 1), (37, .dup, 1), (38, .getfield 166, 3), (41, .iload_n 1, 1)] 20 (by decide +kernel)
theorem dX5_advance_20 : decode cX5_advance 20 = .ok (.iinc 2 1, 3) := dgX5_advance_20.1
theorem dX5_advance_23 : decode cX5_advance 23 = .ok (.goto (-21), 3) := dgX5_advance_20.2.1
theorem dX5_advance_26 : decode cX5_advance 26 = .ok (.aload_n 0, 1) := dgX5_advance_20.2.2.1
theorem dX5_advance_27 : decode cX5_advance 27 = .ok (.dup, 1) := dgX5_advance_20.2.2.2.1
theorem dX5_advance_28 : decode cX5_advance 28 = .ok (.getfield 163, 3) := dgX5_advance_20.2.2.2.2.1
theorem dX5_advance_31 : decode cX5_advance 31 = .ok (.iload_n 1, 1) := dgX5_advance_20.2.2.2.2.2.1
theorem dX5_advance_32 : decode cX5_advance 32 = .ok (.iadd, 1) := dgX5_advance_20.2.2.2.2.2.2.1
theorem dX5_advance_33 : decode cX5_advance 33 = .ok (.putfield 163, 3) := dgX5_advance_20.2.2.2.2.2.2.2.1
theorem dX5_advance_36 : decode cX5_advance 36 = .ok (.aload_n 0, 1) := dgX5_advance_20.2.2.2.2.2.2.2.2.1
theorem dX5_advance_37 : decode cX5_advance 37 = .ok (.dup, 1) := dgX5_advance_20.2.2.2.2.2.2.2.2.2.1
theorem dX5_advance_38 : decode cX5_advance 38 = .ok (.getfield 166, 3) := dgX5_advance_20.2.2.2.2.2.2.2.2.2.2.1
theorem dX5_advance_41 : decode cX5_advance 41 = .ok (.iload_n 1, 1) := dgX5_advance_20.2.2.2.2.2.2.2.2.2.2.2.1
theorem dgX5_advance_42 : (decode cX5_advance 42 = .ok (.invokestatic 169, 3)) ∧ (decode cX5_advance 45 = .ok (.iadd, 1)) ∧ (decode cX5_advance 46 = .ok (.putfield 166, 3)) ∧ (decode cX5_advance 49 = .ok (.return_, 1)) ∧ True := dkW [(42, .invokestatic 169, 3), (45, .iadd, 1), (46, .putfield 166, 3), (49, .return_, 1)] 42 (by decide +kernel)
theorem dX5_advance_42 : decode cX5_advance 42 = .ok (.invokestatic 169, 3) := dgX5_advance_42.1
theorem dX5_advance_45 : decode cX5_advance 45 = .ok (.iadd, 1) := dgX5_advance_42.2.1
theorem dX5_advance_46 : decode cX5_advance 46 = .ok (.putfield 166, 3) := dgX5_advance_42.2.2.1
theorem dX5_advance_49 : decode cX5_advance 49 = .ok (.return_, 1) := dgX5_advance_42.2.2.2.1
abbrev rmX5_advance : Room := { frames := 3, cells := 0, slots := 0, locals := 64 }
noncomputable def fX5_advance_b2_body (N : Nat)  (g2 : Hs → Int32 → Int32 → Option (Hs)) (t : Nat) (h : Hs) (x1 : Int32) (x2 : Int32) : Option (Hs) :=
  (oI 5 9 h (some t)).bind fun v1 =>
  if v1 ≤ x2 then (
  (oI 5 11 h (some t)).bind fun v2 =>
  (qI 5 11 h (some t) (v2 + x1)).bind fun h3 =>
  (oI 5 12 h3 (some t)).bind fun v4 =>
  (qI 5 12 h3 (some t) (v4 + (if 0 ≤ x1 then x1 else 0 - x1 : Int32))).bind fun h5 =>
  some h5)
  else (oR 5 2 h (some t)).bind fun o6 =>
  (lQ 25 h o6 x2).bind fun o7 =>
  (rc 4 h o7).bind fun a9 =>
  (fX4_advance N h a9 x1).bind fun r8 =>
  (some (x2 + 1)).bind fun y10 =>
  g2 r8 x1 y10
noncomputable def fX5_advance_b2 (N : Nat)  (t : Nat) (n : Nat) : Hs → Int32 → Int32 → Option (Hs) := lp (fun _ _ _ => none) (fun g h x1 x2 => fX5_advance_b2_body N  g t h x1 x2) n
set_option maxHeartbeats 4000000 in
set_option maxRecDepth 20000 in
theorem wX5_advance_b2_body {p : Program} {l : Launch} {e : Env} {s : State} {m : MethodId} {args : Array Value} {below : List Frame} {meth : Method} {c : Code} {G : Gl} {N : Nat} {h : Hs} {r : Hs}  {g2 : Hs → Int32 → Int32 → Option (Hs)} {t : Nat} {x1 : Int32} {x2 : Int32} (C : Cx p s m args meth c cX5_advance RX5 3 G) (hret : meth.sig.returnType = none)  (hg2 : ∀ (h : Hs) (x1 : Int32) (x2 : Int32), g2 h x1 x2 = some r → V p l e rmX5_advance s m args below meth c G 3 (MQ below (QcG G (none) r) args s rmX5_advance.cells rmX5_advance.slots (AG G)) h 0 0 2 [some (.inr (some t)), some (.inl x1), some (.inl x2)] []) (hf : fX5_advance_b2_body N  g2 t h x1 x2 = some r) : V p l e rmX5_advance s m args below meth c G 3 (MQ below (QcG G (none) r) args s rmX5_advance.cells rmX5_advance.slots (AG G)) h 0 0 2 [some (.inr (some t)), some (.inl x1), some (.inl x2)] [] := by
  unfold fX5_advance_b2_body at hf
  refine r_iload_n C dX5_advance_2 rfl ?_
  refine r_aload_n C dX5_advance_3 rfl ?_
  obtain ⟨v1, ev1, hf⟩ := bS hf
  refine r_getI C dX5_advance_4 fl_X5_57 rfl ev1 ?_
  refine r_icmp_ge (tgt := 26) C dX5_advance_7 (by decide) (fun hc => ?_) (fun hc => ?_)
  · have hf := ifT hf hc
    refine r_aload_n C dX5_advance_26 rfl ?_
    refine r_dup C dX5_advance_27 ?_
    obtain ⟨v2, ev2, hf⟩ := bS hf
    refine r_getI C dX5_advance_28 fl_X5_163 rfl ev2 ?_
    refine r_iload_n C dX5_advance_31 rfl ?_
    refine r_iadd C dX5_advance_32 ?_
    obtain ⟨h3, eh3, hf⟩ := bS hf
    refine r_putI C dX5_advance_33 fl_X5_163 (Or.inl fn_5_11) rfl eh3 ?_
    refine r_aload_n C dX5_advance_36 rfl ?_
    refine r_dup C dX5_advance_37 ?_
    obtain ⟨v4, ev4, hf⟩ := bS hf
    refine r_getI C dX5_advance_38 fl_X5_166 rfl ev4 ?_
    refine r_iload_n C dX5_advance_41 rfl ?_
    refine r_mabs C dX5_advance_42 ⟨wd_649, wd_599, wd_14, wd_600⟩ (by decide) (Nat.le_of_ble_eq_true rfl) (by decide) (by decide) ?_
    refine r_iadd C dX5_advance_45 ?_
    obtain ⟨h5, eh5, hf⟩ := bS hf
    refine r_putI C dX5_advance_46 fl_X5_166 (Or.inl fn_5_12) rfl eh5 ?_
    exact r_vretF C dX5_advance_49 hret hf (by decide) (by decide)
  · have hf := ifF hf hc
    refine r_aload_n C dX5_advance_10 rfl ?_
    obtain ⟨o6, eo6, hf⟩ := bS hf
    refine r_getR C dX5_advance_11 fl_X5_25 rfl eo6 ?_
    refine r_iload_n C dX5_advance_14 rfl ?_
    obtain ⟨o7, eo7, hf⟩ := bS hf
    refine r_qald (t := 5) C dX5_advance_15 (by decide) (by decide) rfl eo7 ?_
    refine r_iload_n C dX5_advance_16 rfl ?_
    obtain ⟨a9, ea9, hf⟩ := bS hf
    obtain ⟨r8, er8, hf⟩ := bS hf
    refine r_invV0 (As := [.inl x1]) (ci := 4) C dX5_advance_17 mcX4_advance wd_643 wd_644 wd_645 rfl rfl (by decide) ⟨by decide, by decide⟩ ⟨by decide, by decide⟩ rfl (Nat.le_of_ble_eq_true rfl) ea9 (kX4_advance l G er8) ?_
    obtain ⟨y10, ey10, hf⟩ := bS hf
    refine r_iincE (v := 1) C dX5_advance_20 rfl (by decide) (by decide) ey10 ?_
    refine r_goto (tgt := 2) C dX5_advance_23 (by decide) ?_
    exact V.sub (hg2 _ _ _ hf) (LW_s rfl (LW_s rfl (LW_s rfl (LW_e))))
theorem wX5_advance_b2 {p : Program} {l : Launch} {e : Env} {s : State} {m : MethodId} {args : Array Value} {below : List Frame} {meth : Method} {c : Code} {G : Gl} {N : Nat} {r : Hs}  {t : Nat} (C : Cx p s m args meth c cX5_advance RX5 3 G) (hret : meth.sig.returnType = none)  : ∀ (n : Nat) (h : Hs) (x1 : Int32) (x2 : Int32), fX5_advance_b2 N  t n h x1 x2 = some r → V p l e rmX5_advance s m args below meth c G 3 (MQ below (QcG G (none) r) args s rmX5_advance.cells rmX5_advance.slots (AG G)) h 0 0 2 [some (.inr (some t)), some (.inl x1), some (.inl x2)] [] := by
  intro n
  induction n with
  | zero => intro h x1 x2 hf; exact absurd (show (none : Option (Hs)) = some r from hf) (fun q => by cases q)
  | succ n ih => intro h x1 x2 hf; exact wX5_advance_b2_body C hret  ih (show fX5_advance_b2_body N  (fX5_advance_b2 N  t n) t h x1 x2 = some r from hf)
noncomputable def fX5_advance (N : Nat) (h : Hs) (t : Nat) (p1 : Int32) : Option (Hs) :=
  fX5_advance_b2 N t N h p1 0
set_option maxHeartbeats 4000000 in
set_option maxRecDepth 20000 in
theorem kX5_advance (l : Launch) (G : Gl) {N : Nat} {h : Hs} {t : Nat} {p1 : Int32} {r : Hs} (hf : fX5_advance N h t p1 = some r) : CT l G yX5_advance cX5_advance 3 none rmX5_advance [.inr (some t), .inl p1] h (none) r := by
  refine mk_CT (by decide) (Nat.le_of_ble_eq_true rfl) ?_
  intro p e s m args below meth c C hret hin
  unfold fX5_advance at hf
  refine r_iconst (v := 0) C dX5_advance_0 (by decide) ?_
  refine r_istore_n C dX5_advance_1 (by decide) ?_
  exact V.sub (wX5_advance_b2 C hret N _ _ _ hf) (LW_s rfl (LW_s rfl (LW_s rfl (LW_e))))

theorem dgX5_isCatch_0 : (decode cX5_isCatch 0 = .ok (.iconst 0, 1)) ∧ (decode cX5_isCatch 1 = .ok (.istore_n 3, 1)) ∧ (decode cX5_isCatch 2 = .ok (.iload_n 3, 1)) ∧ (decode cX5_isCatch 3 = .ok (.aload_n 0, 1)) ∧ (decode cX5_isCatch 4 = .ok (.getfield 39, 3)) ∧ (decode cX5_isCatch 7 = .ok (.iload_n 1, 1)) ∧ (decode cX5_isCatch 8 = .ok (.iaload, 1)) ∧ (decode cX5_isCatch 9 = .ok (.if_icmp .ge 25, 3)) ∧ (decode cX5_isCatch 12 = .ok (.aload_n 0, 1)) ∧ (decode cX5_isCatch 13 = .ok (.getfield 36, 3)) ∧ (decode cX5_isCatch 16 = .ok (.iload_n 1, 1)) ∧ (decode cX5_isCatch 17 = .ok (.iconst 5, 1)) ∧ True := dkW [(0, .iconst 0, 1), (1, .istore_n 3, 1), (2, .iload_n 3, 1), (3, .aload_n 0, 1), (4, .getfield 39, 3), (7, .iload_n 1, 1), (8, .iaload, 1), (9, .if_icmp .ge 25, 3), (12, .aload_n 0, 1), (13, .getfield 36, 3), (16, .iload_n 1, 1), (17, .iconst 5, 1)] 0 (by decide +kernel)
theorem dX5_isCatch_0 : decode cX5_isCatch 0 = .ok (.iconst 0, 1) := dgX5_isCatch_0.1
theorem dX5_isCatch_1 : decode cX5_isCatch 1 = .ok (.istore_n 3, 1) := dgX5_isCatch_0.2.1
theorem dX5_isCatch_2 : decode cX5_isCatch 2 = .ok (.iload_n 3, 1) := dgX5_isCatch_0.2.2.1
theorem dX5_isCatch_3 : decode cX5_isCatch 3 = .ok (.aload_n 0, 1) := dgX5_isCatch_0.2.2.2.1
theorem dX5_isCatch_4 : decode cX5_isCatch 4 = .ok (.getfield 39, 3) := dgX5_isCatch_0.2.2.2.2.1
theorem dX5_isCatch_7 : decode cX5_isCatch 7 = .ok (.iload_n 1, 1) := dgX5_isCatch_0.2.2.2.2.2.1
theorem dX5_isCatch_8 : decode cX5_isCatch 8 = .ok (.iaload, 1) := dgX5_isCatch_0.2.2.2.2.2.2.1
theorem dX5_isCatch_9 : decode cX5_isCatch 9 = .ok (.if_icmp .ge 25, 3) := dgX5_isCatch_0.2.2.2.2.2.2.2.1
theorem dX5_isCatch_12 : decode cX5_isCatch 12 = .ok (.aload_n 0, 1) := dgX5_isCatch_0.2.2.2.2.2.2.2.2.1
theorem dX5_isCatch_13 : decode cX5_isCatch 13 = .ok (.getfield 36, 3) := dgX5_isCatch_0.2.2.2.2.2.2.2.2.2.1
theorem dX5_isCatch_16 : decode cX5_isCatch 16 = .ok (.iload_n 1, 1) := dgX5_isCatch_0.2.2.2.2.2.2.2.2.2.2.1
theorem dX5_isCatch_17 : decode cX5_isCatch 17 = .ok (.iconst 5, 1) := dgX5_isCatch_0.2.2.2.2.2.2.2.2.2.2.2.1
theorem dgX5_isCatch_18 : (decode cX5_isCatch 18 = .ok (.imul, 1)) ∧ (decode cX5_isCatch 19 = .ok (.iload_n 3, 1)) ∧ (decode cX5_isCatch 20 = .ok (.iadd, 1)) ∧ (decode cX5_isCatch 21 = .ok (.iaload, 1)) ∧ (decode cX5_isCatch 22 = .ok (.iload_n 2, 1)) ∧ (decode cX5_isCatch 23 = .ok (.if_icmp .ne 5, 3)) ∧ (decode cX5_isCatch 26 = .ok (.iconst 1, 1)) ∧ (decode cX5_isCatch 27 = .ok (.ireturn, 1)) ∧ (decode cX5_isCatch 28 = .ok (.iinc 3 1, 3)) ∧ (decode cX5_isCatch 31 = .ok (.goto (-29), 3)) ∧ (decode cX5_isCatch 34 = .ok (.iconst 0, 1)) ∧ (decode cX5_isCatch 35 = .ok (.ireturn, 1)) ∧ True := dkW [(18, .imul, 1), (19, .iload_n 3, 1), (20, .iadd, 1), (21, .iaload, 1), (22, .iload_n 2, 1), (23, .if_icmp .ne 5, 3), (26, .iconst 1, 1), (27, .ireturn, 1), (28, .iinc 3 1, 3), (31, .goto (-29), 3), (34, .iconst 0, 1), (35, .ireturn, 1)] 18 (by decide +kernel)
theorem dX5_isCatch_18 : decode cX5_isCatch 18 = .ok (.imul, 1) := dgX5_isCatch_18.1
theorem dX5_isCatch_19 : decode cX5_isCatch 19 = .ok (.iload_n 3, 1) := dgX5_isCatch_18.2.1
theorem dX5_isCatch_20 : decode cX5_isCatch 20 = .ok (.iadd, 1) := dgX5_isCatch_18.2.2.1
theorem dX5_isCatch_21 : decode cX5_isCatch 21 = .ok (.iaload, 1) := dgX5_isCatch_18.2.2.2.1
theorem dX5_isCatch_22 : decode cX5_isCatch 22 = .ok (.iload_n 2, 1) := dgX5_isCatch_18.2.2.2.2.1
theorem dX5_isCatch_23 : decode cX5_isCatch 23 = .ok (.if_icmp .ne 5, 3) := dgX5_isCatch_18.2.2.2.2.2.1
theorem dX5_isCatch_26 : decode cX5_isCatch 26 = .ok (.iconst 1, 1) := dgX5_isCatch_18.2.2.2.2.2.2.1
theorem dX5_isCatch_27 : decode cX5_isCatch 27 = .ok (.ireturn, 1) := dgX5_isCatch_18.2.2.2.2.2.2.2.1
theorem dX5_isCatch_28 : decode cX5_isCatch 28 = .ok (.iinc 3 1, 3) := dgX5_isCatch_18.2.2.2.2.2.2.2.2.1
theorem dX5_isCatch_31 : decode cX5_isCatch 31 = .ok (.goto (-29), 3) := dgX5_isCatch_18.2.2.2.2.2.2.2.2.2.1
theorem dX5_isCatch_34 : decode cX5_isCatch 34 = .ok (.iconst 0, 1) := dgX5_isCatch_18.2.2.2.2.2.2.2.2.2.2.1
theorem dX5_isCatch_35 : decode cX5_isCatch 35 = .ok (.ireturn, 1) := dgX5_isCatch_18.2.2.2.2.2.2.2.2.2.2.2.1
abbrev rmX5_isCatch : Room := { frames := 0, cells := 0, slots := 0, locals := 0 }
noncomputable def fX5_isCatch_b2_body (N : Nat)  (g2 : Hs → Int32 → Int32 → Int32 → Option (Int32 × Hs)) (t : Nat) (h : Hs) (x1 : Int32) (x2 : Int32) (x3 : Int32) : Option (Int32 × Hs) :=
  (oR 5 6 h (some t)).bind fun o1 =>
  (lA 20 h o1 x1).bind fun v2 =>
  if v2 ≤ x3 then (
  some (0, h))
  else (oR 5 5 h (some t)).bind fun o3 =>
  (lA 20 h o3 ((x1 * 5) + x3)).bind fun v4 =>
  if v4 = x2 then (
  some (1, h))
  else (some (x3 + 1)).bind fun y5 =>
  g2 h x1 x2 y5
noncomputable def fX5_isCatch_b2 (N : Nat)  (t : Nat) (n : Nat) : Hs → Int32 → Int32 → Int32 → Option (Int32 × Hs) := lp (fun _ _ _ _ => none) (fun g h x1 x2 x3 => fX5_isCatch_b2_body N  g t h x1 x2 x3) n
set_option maxHeartbeats 4000000 in
set_option maxRecDepth 20000 in
theorem wX5_isCatch_b2_body {p : Program} {l : Launch} {e : Env} {s : State} {m : MethodId} {args : Array Value} {below : List Frame} {meth : Method} {c : Code} {G : Gl} {N : Nat} {h : Hs} {r : Int32 × Hs}  {g2 : Hs → Int32 → Int32 → Int32 → Option (Int32 × Hs)} {t : Nat} {x1 : Int32} {x2 : Int32} {x3 : Int32} (C : Cx p s m args meth c cX5_isCatch RX5 4 G) (hret : meth.sig.returnType = (some .boolean))  (hg2 : ∀ (h : Hs) (x1 : Int32) (x2 : Int32) (x3 : Int32), g2 h x1 x2 x3 = some r → V p l e rmX5_isCatch s m args below meth c G 4 (MQ below (QcG G (some (.inl r.1)) r.2) args s rmX5_isCatch.cells rmX5_isCatch.slots (AG G)) h 0 0 2 [some (.inr (some t)), some (.inl x1), some (.inl x2), some (.inl x3)] []) (hf : fX5_isCatch_b2_body N  g2 t h x1 x2 x3 = some r) : V p l e rmX5_isCatch s m args below meth c G 4 (MQ below (QcG G (some (.inl r.1)) r.2) args s rmX5_isCatch.cells rmX5_isCatch.slots (AG G)) h 0 0 2 [some (.inr (some t)), some (.inl x1), some (.inl x2), some (.inl x3)] [] := by
  unfold fX5_isCatch_b2_body at hf
  refine r_iload_n C dX5_isCatch_2 rfl ?_
  refine r_aload_n C dX5_isCatch_3 rfl ?_
  obtain ⟨o1, eo1, hf⟩ := bS hf
  refine r_getR C dX5_isCatch_4 fl_X5_39 rfl eo1 ?_
  refine r_iload_n C dX5_isCatch_7 rfl ?_
  obtain ⟨v2, ev2, hf⟩ := bS hf
  refine r_iald C dX5_isCatch_8 ev2 ?_
  refine r_icmp_ge (tgt := 34) C dX5_isCatch_9 (by decide) (fun hc => ?_) (fun hc => ?_)
  · have hf := ifT hf hc
    refine r_iconst (v := 0) C dX5_isCatch_34 (by decide) ?_
    exact r_zretF C dX5_isCatch_35 hret (z := 0) rfl hf (by decide) (by decide)
  · have hf := ifF hf hc
    refine r_aload_n C dX5_isCatch_12 rfl ?_
    obtain ⟨o3, eo3, hf⟩ := bS hf
    refine r_getR C dX5_isCatch_13 fl_X5_36 rfl eo3 ?_
    refine r_iload_n C dX5_isCatch_16 rfl ?_
    refine r_iconst (v := 5) C dX5_isCatch_17 (by decide) ?_
    refine r_imul C dX5_isCatch_18 ?_
    refine r_iload_n C dX5_isCatch_19 rfl ?_
    refine r_iadd C dX5_isCatch_20 ?_
    obtain ⟨v4, ev4, hf⟩ := bS hf
    refine r_iald C dX5_isCatch_21 ev4 ?_
    refine r_iload_n C dX5_isCatch_22 rfl ?_
    refine r_icmp_ne (tgt := 28) C dX5_isCatch_23 (by decide) (fun hc => ?_) (fun hc => ?_)
    · have hf := ifF hf hc
      obtain ⟨y5, ey5, hf⟩ := bS hf
      refine r_iincE (v := 1) C dX5_isCatch_28 rfl (by decide) (by decide) ey5 ?_
      refine r_goto (tgt := 2) C dX5_isCatch_31 (by decide) ?_
      exact V.sub (hg2 _ _ _ _ hf) (LW_s rfl (LW_s rfl (LW_s rfl (LW_s rfl (LW_e)))))
    · have hf := ifT hf hc
      refine r_iconst (v := 1) C dX5_isCatch_26 (by decide) ?_
      exact r_zretF C dX5_isCatch_27 hret (z := 1) rfl hf (by decide) (by decide)
theorem wX5_isCatch_b2 {p : Program} {l : Launch} {e : Env} {s : State} {m : MethodId} {args : Array Value} {below : List Frame} {meth : Method} {c : Code} {G : Gl} {N : Nat} {r : Int32 × Hs}  {t : Nat} (C : Cx p s m args meth c cX5_isCatch RX5 4 G) (hret : meth.sig.returnType = (some .boolean))  : ∀ (n : Nat) (h : Hs) (x1 : Int32) (x2 : Int32) (x3 : Int32), fX5_isCatch_b2 N  t n h x1 x2 x3 = some r → V p l e rmX5_isCatch s m args below meth c G 4 (MQ below (QcG G (some (.inl r.1)) r.2) args s rmX5_isCatch.cells rmX5_isCatch.slots (AG G)) h 0 0 2 [some (.inr (some t)), some (.inl x1), some (.inl x2), some (.inl x3)] [] := by
  intro n
  induction n with
  | zero => intro h x1 x2 x3 hf; exact absurd (show (none : Option (Int32 × Hs)) = some r from hf) (fun q => by cases q)
  | succ n ih => intro h x1 x2 x3 hf; exact wX5_isCatch_b2_body C hret  ih (show fX5_isCatch_b2_body N  (fX5_isCatch_b2 N  t n) t h x1 x2 x3 = some r from hf)
noncomputable def fX5_isCatch (N : Nat) (h : Hs) (t : Nat) (p1 : Int32) (p2 : Int32) : Option (Int32 × Hs) :=
  fX5_isCatch_b2 N t N h p1 p2 0
set_option maxHeartbeats 4000000 in
set_option maxRecDepth 20000 in
theorem kX5_isCatch (l : Launch) (G : Gl) {N : Nat} {h : Hs} {t : Nat} {p1 : Int32} {p2 : Int32} {r : Int32 × Hs} (hf : fX5_isCatch N h t p1 p2 = some r) : CT l G yX5_isCatch cX5_isCatch 4 (some .boolean) rmX5_isCatch [.inr (some t), .inl p1, .inl p2] h (some (.inl r.1)) r.2 := by
  refine mk_CT (by decide) (Nat.le_of_ble_eq_true rfl) ?_
  intro p e s m args below meth c C hret hin
  unfold fX5_isCatch at hf
  refine r_iconst (v := 0) C dX5_isCatch_0 (by decide) ?_
  refine r_istore_n C dX5_isCatch_1 (by decide) ?_
  exact V.sub (wX5_isCatch_b2 C hret N _ _ _ _ hf) (LW_s rfl (LW_s rfl (LW_s rfl (LW_s rfl (LW_e)))))

theorem dgX5_canFall_0 : (decode cX5_canFall 0 = .ok (.aload_n 0, 1)) ∧ (decode cX5_canFall 1 = .ok (.aload_n 1, 1)) ∧ (decode cX5_canFall 2 = .ok (.getfield 81, 3)) ∧ (decode cX5_canFall 5 = .ok (.aload_n 1, 1)) ∧ (decode cX5_canFall 6 = .ok (.getfield 87, 3)) ∧ (decode cX5_canFall 9 = .ok (.invokevirtual 185, 3)) ∧ (decode cX5_canFall 12 = .ok (.ifCond .ne 29, 3)) ∧ (decode cX5_canFall 15 = .ok (.aload_n 0, 1)) ∧ (decode cX5_canFall 16 = .ok (.aload_n 1, 1)) ∧ (decode cX5_canFall 17 = .ok (.aload_n 1, 1)) ∧ (decode cX5_canFall 18 = .ok (.getfield 81, 3)) ∧ (decode cX5_canFall 21 = .ok (.aload_n 1, 1)) ∧ True := dkW [(0, .aload_n 0, 1), (1, .aload_n 1, 1), (2, .getfield 81, 3), (5, .aload_n 1, 1), (6, .getfield 87, 3), (9, .invokevirtual 185, 3), (12, .ifCond .ne 29, 3), (15, .aload_n 0, 1), (16, .aload_n 1, 1), (17, .aload_n 1, 1), (18, .getfield 81, 3), (21, .aload_n 1, 1)] 0 (by decide +kernel)
theorem dX5_canFall_0 : decode cX5_canFall 0 = .ok (.aload_n 0, 1) := dgX5_canFall_0.1
theorem dX5_canFall_1 : decode cX5_canFall 1 = .ok (.aload_n 1, 1) := dgX5_canFall_0.2.1
theorem dX5_canFall_2 : decode cX5_canFall 2 = .ok (.getfield 81, 3) := dgX5_canFall_0.2.2.1
theorem dX5_canFall_5 : decode cX5_canFall 5 = .ok (.aload_n 1, 1) := dgX5_canFall_0.2.2.2.1
theorem dX5_canFall_6 : decode cX5_canFall 6 = .ok (.getfield 87, 3) := dgX5_canFall_0.2.2.2.2.1
theorem dX5_canFall_9 : decode cX5_canFall 9 = .ok (.invokevirtual 185, 3) := dgX5_canFall_0.2.2.2.2.2.1
theorem dX5_canFall_12 : decode cX5_canFall 12 = .ok (.ifCond .ne 29, 3) := dgX5_canFall_0.2.2.2.2.2.2.1
theorem dX5_canFall_15 : decode cX5_canFall 15 = .ok (.aload_n 0, 1) := dgX5_canFall_0.2.2.2.2.2.2.2.1
theorem dX5_canFall_16 : decode cX5_canFall 16 = .ok (.aload_n 1, 1) := dgX5_canFall_0.2.2.2.2.2.2.2.2.1
theorem dX5_canFall_17 : decode cX5_canFall 17 = .ok (.aload_n 1, 1) := dgX5_canFall_0.2.2.2.2.2.2.2.2.2.1
theorem dX5_canFall_18 : decode cX5_canFall 18 = .ok (.getfield 81, 3) := dgX5_canFall_0.2.2.2.2.2.2.2.2.2.2.1
theorem dX5_canFall_21 : decode cX5_canFall 21 = .ok (.aload_n 1, 1) := dgX5_canFall_0.2.2.2.2.2.2.2.2.2.2.2.1
theorem dgX5_canFall_22 : (decode cX5_canFall 22 = .ok (.getfield 87, 3)) ∧ (decode cX5_canFall 25 = .ok (.iload_n 2, 1)) ∧ (decode cX5_canFall 26 = .ok (.iadd, 1)) ∧ (decode cX5_canFall 27 = .ok (.aload_n 1, 1)) ∧ (decode cX5_canFall 28 = .ok (.getfield 90, 3)) ∧ (decode cX5_canFall 31 = .ok (.invokevirtual 64, 3)) ∧ (decode cX5_canFall 34 = .ok (.ifCond .eq 7, 3)) ∧ (decode cX5_canFall 37 = .ok (.iconst 1, 1)) ∧ (decode cX5_canFall 38 = .ok (.goto 4, 3)) ∧ (decode cX5_canFall 41 = .ok (.iconst 0, 1)) ∧ (decode cX5_canFall 42 = .ok (.ireturn, 1)) ∧ True := dkW [(22, .getfield 87, 3), (25, .iload_n 2, 1), (26, .iadd, 1), (27, .aload_n 1, 1), (28, .getfield 90, 3), (31, .invokevirtual 64, 3), (34, .ifCond .eq 7, 3), (37, .iconst 1, 1), (38, .goto 4, 3), (41, .iconst 0, 1), (42, .ireturn, 1)] 22 (by decide +kernel)
theorem dX5_canFall_22 : decode cX5_canFall 22 = .ok (.getfield 87, 3) := dgX5_canFall_22.1
theorem dX5_canFall_25 : decode cX5_canFall 25 = .ok (.iload_n 2, 1) := dgX5_canFall_22.2.1
theorem dX5_canFall_26 : decode cX5_canFall 26 = .ok (.iadd, 1) := dgX5_canFall_22.2.2.1
theorem dX5_canFall_27 : decode cX5_canFall 27 = .ok (.aload_n 1, 1) := dgX5_canFall_22.2.2.2.1
theorem dX5_canFall_28 : decode cX5_canFall 28 = .ok (.getfield 90, 3) := dgX5_canFall_22.2.2.2.2.1
theorem dX5_canFall_31 : decode cX5_canFall 31 = .ok (.invokevirtual 64, 3) := dgX5_canFall_22.2.2.2.2.2.1
theorem dX5_canFall_34 : decode cX5_canFall 34 = .ok (.ifCond .eq 7, 3) := dgX5_canFall_22.2.2.2.2.2.2.1
theorem dX5_canFall_37 : decode cX5_canFall 37 = .ok (.iconst 1, 1) := dgX5_canFall_22.2.2.2.2.2.2.2.1
theorem dX5_canFall_38 : decode cX5_canFall 38 = .ok (.goto 4, 3) := dgX5_canFall_22.2.2.2.2.2.2.2.2.1
theorem dX5_canFall_41 : decode cX5_canFall 41 = .ok (.iconst 0, 1) := dgX5_canFall_22.2.2.2.2.2.2.2.2.2.1
theorem dX5_canFall_42 : decode cX5_canFall 42 = .ok (.ireturn, 1) := dgX5_canFall_22.2.2.2.2.2.2.2.2.2.2.1
abbrev rmX5_canFall : Room := { frames := 2, cells := 0, slots := 0, locals := 50 }
noncomputable def fX5_canFall_b42 (N : Nat)  (t : Nat) (h : Hs) (u0 : Int32) : Option (Int32 × Hs) :=
  (zc u0).bind fun z1 =>
  some (z1, h)
set_option maxHeartbeats 4000000 in
set_option maxRecDepth 20000 in
theorem wX5_canFall_b42 {p : Program} {l : Launch} {e : Env} {s : State} {m : MethodId} {args : Array Value} {below : List Frame} {meth : Method} {c : Code} {G : Gl} {N : Nat} {h : Hs} {r : Int32 × Hs}  {t : Nat} {u0 : Int32} (C : Cx p s m args meth c cX5_canFall RX5 3 G) (hret : meth.sig.returnType = (some .boolean))  (hf : fX5_canFall_b42 N  t h u0 = some r) : V p l e rmX5_canFall s m args below meth c G 3 (MQ below (QcG G (some (.inl r.1)) r.2) args s rmX5_canFall.cells rmX5_canFall.slots (AG G)) h 0 0 42 [some (.inr (some t)), none, none] [.inl u0] := by
  unfold fX5_canFall_b42 at hf
  obtain ⟨z1, ez1, hf⟩ := bS hf
  exact r_zretF C dX5_canFall_42 hret ez1 hf (by decide) (by decide)
noncomputable def fX5_canFall_b41 (N : Nat)  (t : Nat) (h : Hs)  : Option (Int32 × Hs) :=
  fX5_canFall_b42 N t h 0
set_option maxHeartbeats 4000000 in
set_option maxRecDepth 20000 in
theorem wX5_canFall_b41 {p : Program} {l : Launch} {e : Env} {s : State} {m : MethodId} {args : Array Value} {below : List Frame} {meth : Method} {c : Code} {G : Gl} {N : Nat} {h : Hs} {r : Int32 × Hs}  {t : Nat}  (C : Cx p s m args meth c cX5_canFall RX5 3 G) (hret : meth.sig.returnType = (some .boolean))  (hf : fX5_canFall_b41 N  t h  = some r) : V p l e rmX5_canFall s m args below meth c G 3 (MQ below (QcG G (some (.inl r.1)) r.2) args s rmX5_canFall.cells rmX5_canFall.slots (AG G)) h 0 0 41 [some (.inr (some t)), none, none] [] := by
  unfold fX5_canFall_b41 at hf
  refine r_iconst (v := 0) C dX5_canFall_41 (by decide) ?_
  exact V.sub (wX5_canFall_b42 C hret hf) (LW_s rfl (LW_n (LW_n (LW_e))))
noncomputable def fX5_canFall (N : Nat) (h : Hs) (t : Nat) (p1 : Option Nat) (p2 : Int32) : Option (Int32 × Hs) :=
  (oI 9 1 h p1).bind fun v1 =>
  (oI 9 7 h p1).bind fun v2 =>
  (rc 5 h (some t)).bind fun a4 =>
  (fX5_isCatch N h a4 v1 v2).bind fun r3 =>
  if r3.1 = 0 then (
  (oI 9 1 r3.2 p1).bind fun v5 =>
  (oI 9 7 r3.2 p1).bind fun v6 =>
  (oI 9 2 r3.2 p1).bind fun v7 =>
  (rc 5 r3.2 (some t)).bind fun a9 =>
  (fX5_isClear N r3.2 a9 p1 v5 (v6 + p2) v7).bind fun r8 =>
  if r8.1 = 0 then (
  fX5_canFall_b41 N t r8.2)
  else fX5_canFall_b42 N t r8.2 1)
  else fX5_canFall_b41 N t r3.2
set_option maxHeartbeats 4000000 in
set_option maxRecDepth 20000 in
theorem kX5_canFall (l : Launch) (G : Gl) {N : Nat} {h : Hs} {t : Nat} {p1 : Option Nat} {p2 : Int32} {r : Int32 × Hs} (hf : fX5_canFall N h t p1 p2 = some r) : CT l G yX5_canFall cX5_canFall 3 (some .boolean) rmX5_canFall [.inr (some t), .inr p1, .inl p2] h (some (.inl r.1)) r.2 := by
  refine mk_CT (by decide) (Nat.le_of_ble_eq_true rfl) ?_
  intro p e s m args below meth c C hret hin
  unfold fX5_canFall at hf
  refine r_aload_n C dX5_canFall_0 rfl ?_
  refine r_aload_n C dX5_canFall_1 rfl ?_
  obtain ⟨v1, ev1, hf⟩ := bS hf
  refine r_getI C dX5_canFall_2 fl_X5_81 rfl ev1 ?_
  refine r_aload_n C dX5_canFall_5 rfl ?_
  obtain ⟨v2, ev2, hf⟩ := bS hf
  refine r_getI C dX5_canFall_6 fl_X5_87 rfl ev2 ?_
  obtain ⟨a4, ea4, hf⟩ := bS hf
  obtain ⟨r3, er3, hf⟩ := bS hf
  refine r_invV1 (As := [.inl v1, .inl v2]) (ci := 5) C dX5_canFall_9 mcX5_isCatch wd_679 wd_681 wp_7 rfl rfl (by decide) ⟨by decide, by decide⟩ ⟨by decide, by decide⟩ rfl (Nat.le_of_ble_eq_true rfl) ea4 (kX5_isCatch l G er3) ?_
  refine r_if_ne (tgt := 41) C dX5_canFall_12 (by decide) (fun hc => ?_) (fun hc => ?_)
  · have hf := ifF hf hc
    exact V.sub (wX5_canFall_b41 C hret hf) (LW_s rfl (LW_n (LW_n (LW_e))))
  · have hf := ifT hf hc
    refine r_aload_n C dX5_canFall_15 rfl ?_
    refine r_aload_n C dX5_canFall_16 rfl ?_
    refine r_aload_n C dX5_canFall_17 rfl ?_
    obtain ⟨v5, ev5, hf⟩ := bS hf
    refine r_getI C dX5_canFall_18 fl_X5_81 rfl ev5 ?_
    refine r_aload_n C dX5_canFall_21 rfl ?_
    obtain ⟨v6, ev6, hf⟩ := bS hf
    refine r_getI C dX5_canFall_22 fl_X5_87 rfl ev6 ?_
    refine r_iload_n C dX5_canFall_25 rfl ?_
    refine r_iadd C dX5_canFall_26 ?_
    refine r_aload_n C dX5_canFall_27 rfl ?_
    obtain ⟨v7, ev7, hf⟩ := bS hf
    refine r_getI C dX5_canFall_28 fl_X5_90 rfl ev7 ?_
    obtain ⟨a9, ea9, hf⟩ := bS hf
    obtain ⟨r8, er8, hf⟩ := bS hf
    refine r_invV1 (As := [.inr p1, .inl v5, .inl (v6 + p2), .inl v7]) (ci := 5) C dX5_canFall_31 mcX5_isClear wd_296 wd_297 wd_298 rfl rfl (by decide) ⟨by decide, by decide⟩ ⟨by decide, by decide⟩ rfl (Nat.le_of_ble_eq_true rfl) ea9 (kX5_isClear l G er8) ?_
    refine r_if_eq (tgt := 41) C dX5_canFall_34 (by decide) (fun hc => ?_) (fun hc => ?_)
    · have hf := ifT hf hc
      exact V.sub (wX5_canFall_b41 C hret hf) (LW_s rfl (LW_n (LW_n (LW_e))))
    · have hf := ifF hf hc
      refine r_iconst (v := 1) C dX5_canFall_37 (by decide) ?_
      refine r_goto (tgt := 42) C dX5_canFall_38 (by decide) ?_
      exact V.sub (wX5_canFall_b42 C hret hf) (LW_s rfl (LW_n (LW_n (LW_e))))

theorem dgX5_fall_0 : (decode cX5_fall 0 = .ok (.iconst 0, 1)) ∧ (decode cX5_fall 1 = .ok (.istore 4, 2)) ∧ (decode cX5_fall 3 = .ok (.iload 4, 2)) ∧ (decode cX5_fall 5 = .ok (.iload_n 3, 1)) ∧ (decode cX5_fall 6 = .ok (.if_icmp .ge 28, 3)) ∧ (decode cX5_fall 9 = .ok (.aload_n 0, 1)) ∧ (decode cX5_fall 10 = .ok (.aload_n 1, 1)) ∧ (decode cX5_fall 11 = .ok (.iload_n 2, 1)) ∧ (decode cX5_fall 12 = .ok (.invokevirtual 181, 3)) ∧ (decode cX5_fall 15 = .ok (.ifCond .eq 19, 3)) ∧ (decode cX5_fall 18 = .ok (.aload_n 1, 1)) ∧ (decode cX5_fall 19 = .ok (.dup, 1)) ∧ True := dkW [(0, .iconst 0, 1), (1, .istore 4, 2), (3, .iload 4, 2), (5, .iload_n 3, 1), (6, .if_icmp .ge 28, 3), (9, .aload_n 0, 1), (10, .aload_n 1, 1), (11, .iload_n 2, 1), (12, .invokevirtual 181, 3), (15, .ifCond .eq 19, 3), (18, .aload_n 1, 1), (19, .dup, 1)] 0 (by decide +kernel)
theorem dX5_fall_0 : decode cX5_fall 0 = .ok (.iconst 0, 1) := dgX5_fall_0.1
theorem dX5_fall_1 : decode cX5_fall 1 = .ok (.istore 4, 2) := dgX5_fall_0.2.1
theorem dX5_fall_3 : decode cX5_fall 3 = .ok (.iload 4, 2) := dgX5_fall_0.2.2.1
theorem dX5_fall_5 : decode cX5_fall 5 = .ok (.iload_n 3, 1) := dgX5_fall_0.2.2.2.1
theorem dX5_fall_6 : decode cX5_fall 6 = .ok (.if_icmp .ge 28, 3) := dgX5_fall_0.2.2.2.2.1
theorem dX5_fall_9 : decode cX5_fall 9 = .ok (.aload_n 0, 1) := dgX5_fall_0.2.2.2.2.2.1
theorem dX5_fall_10 : decode cX5_fall 10 = .ok (.aload_n 1, 1) := dgX5_fall_0.2.2.2.2.2.2.1
theorem dX5_fall_11 : decode cX5_fall 11 = .ok (.iload_n 2, 1) := dgX5_fall_0.2.2.2.2.2.2.2.1
theorem dX5_fall_12 : decode cX5_fall 12 = .ok (.invokevirtual 181, 3) := dgX5_fall_0.2.2.2.2.2.2.2.2.1
theorem dX5_fall_15 : decode cX5_fall 15 = .ok (.ifCond .eq 19, 3) := dgX5_fall_0.2.2.2.2.2.2.2.2.2.1
theorem dX5_fall_18 : decode cX5_fall 18 = .ok (.aload_n 1, 1) := dgX5_fall_0.2.2.2.2.2.2.2.2.2.2.1
theorem dX5_fall_19 : decode cX5_fall 19 = .ok (.dup, 1) := dgX5_fall_0.2.2.2.2.2.2.2.2.2.2.2.1
theorem dgX5_fall_20 : (decode cX5_fall 20 = .ok (.getfield 87, 3)) ∧ (decode cX5_fall 23 = .ok (.iload_n 2, 1)) ∧ (decode cX5_fall 24 = .ok (.iadd, 1)) ∧ (decode cX5_fall 25 = .ok (.putfield 87, 3)) ∧ (decode cX5_fall 28 = .ok (.iinc 4 1, 3)) ∧ (decode cX5_fall 31 = .ok (.goto (-28), 3)) ∧ (decode cX5_fall 34 = .ok (.iload 4, 2)) ∧ (decode cX5_fall 36 = .ok (.ireturn, 1)) ∧ True := dkW [(20, .getfield 87, 3), (23, .iload_n 2, 1), (24, .iadd, 1), (25, .putfield 87, 3), (28, .iinc 4 1, 3), (31, .goto (-28), 3), (34, .iload 4, 2), (36, .ireturn, 1)] 20 (by decide +kernel)
theorem dX5_fall_20 : decode cX5_fall 20 = .ok (.getfield 87, 3) := dgX5_fall_20.1
theorem dX5_fall_23 : decode cX5_fall 23 = .ok (.iload_n 2, 1) := dgX5_fall_20.2.1
theorem dX5_fall_24 : decode cX5_fall 24 = .ok (.iadd, 1) := dgX5_fall_20.2.2.1
theorem dX5_fall_25 : decode cX5_fall 25 = .ok (.putfield 87, 3) := dgX5_fall_20.2.2.2.1
theorem dX5_fall_28 : decode cX5_fall 28 = .ok (.iinc 4 1, 3) := dgX5_fall_20.2.2.2.2.1
theorem dX5_fall_31 : decode cX5_fall 31 = .ok (.goto (-28), 3) := dgX5_fall_20.2.2.2.2.2.1
theorem dX5_fall_34 : decode cX5_fall 34 = .ok (.iload 4, 2) := dgX5_fall_20.2.2.2.2.2.2.1
theorem dX5_fall_36 : decode cX5_fall 36 = .ok (.ireturn, 1) := dgX5_fall_20.2.2.2.2.2.2.2.1
abbrev rmX5_fall : Room := { frames := 3, cells := 0, slots := 0, locals := 72 }
noncomputable def fX5_fall_b34 (N : Nat)  (t : Nat) (h : Hs) (x4 : Int32) : Option (Int32 × Hs) :=
  some (x4, h)
set_option maxHeartbeats 4000000 in
set_option maxRecDepth 20000 in
theorem wX5_fall_b34 {p : Program} {l : Launch} {e : Env} {s : State} {m : MethodId} {args : Array Value} {below : List Frame} {meth : Method} {c : Code} {G : Gl} {N : Nat} {h : Hs} {r : Int32 × Hs}  {t : Nat} {x4 : Int32} (C : Cx p s m args meth c cX5_fall RX5 5 G) (hret : meth.sig.returnType = (some .int))  (hf : fX5_fall_b34 N  t h x4 = some r) : V p l e rmX5_fall s m args below meth c G 5 (MQ below (QcG G (some (.inl r.1)) r.2) args s rmX5_fall.cells rmX5_fall.slots (AG G)) h 0 0 34 [some (.inr (some t)), none, none, none, some (.inl x4)] [] := by
  unfold fX5_fall_b34 at hf
  refine r_iload C dX5_fall_34 rfl ?_
  exact r_iretF C dX5_fall_36 hret hf (by decide) (by decide)
noncomputable def fX5_fall_b3_body (N : Nat)  (g3 : Hs → Option Nat → Int32 → Int32 → Int32 → Option (Int32 × Hs)) (t : Nat) (h : Hs) (w1 : Option Nat) (x2 : Int32) (x3 : Int32) (x4 : Int32) : Option (Int32 × Hs) :=
  if x3 ≤ x4 then (
  fX5_fall_b34 N t h x4)
  else (rc 5 h (some t)).bind fun a2 =>
  (fX5_canFall N h a2 w1 x2).bind fun r1 =>
  if r1.1 = 0 then (
  fX5_fall_b34 N t r1.2 x4)
  else (oI 9 7 r1.2 w1).bind fun v3 =>
  (qI 9 7 r1.2 w1 (v3 + x2)).bind fun h4 =>
  (some (x4 + 1)).bind fun y5 =>
  g3 h4 w1 x2 x3 y5
noncomputable def fX5_fall_b3 (N : Nat)  (t : Nat) (n : Nat) : Hs → Option Nat → Int32 → Int32 → Int32 → Option (Int32 × Hs) := lp (fun _ _ _ _ _ => none) (fun g h w1 x2 x3 x4 => fX5_fall_b3_body N  g t h w1 x2 x3 x4) n
set_option maxHeartbeats 4000000 in
set_option maxRecDepth 20000 in
theorem wX5_fall_b3_body {p : Program} {l : Launch} {e : Env} {s : State} {m : MethodId} {args : Array Value} {below : List Frame} {meth : Method} {c : Code} {G : Gl} {N : Nat} {h : Hs} {r : Int32 × Hs}  {g3 : Hs → Option Nat → Int32 → Int32 → Int32 → Option (Int32 × Hs)} {t : Nat} {w1 : Option Nat} {x2 : Int32} {x3 : Int32} {x4 : Int32} (C : Cx p s m args meth c cX5_fall RX5 5 G) (hret : meth.sig.returnType = (some .int))  (hg3 : ∀ (h : Hs) (w1 : Option Nat) (x2 : Int32) (x3 : Int32) (x4 : Int32), g3 h w1 x2 x3 x4 = some r → V p l e rmX5_fall s m args below meth c G 5 (MQ below (QcG G (some (.inl r.1)) r.2) args s rmX5_fall.cells rmX5_fall.slots (AG G)) h 0 0 3 [some (.inr (some t)), some (.inr w1), some (.inl x2), some (.inl x3), some (.inl x4)] []) (hf : fX5_fall_b3_body N  g3 t h w1 x2 x3 x4 = some r) : V p l e rmX5_fall s m args below meth c G 5 (MQ below (QcG G (some (.inl r.1)) r.2) args s rmX5_fall.cells rmX5_fall.slots (AG G)) h 0 0 3 [some (.inr (some t)), some (.inr w1), some (.inl x2), some (.inl x3), some (.inl x4)] [] := by
  unfold fX5_fall_b3_body at hf
  refine r_iload C dX5_fall_3 rfl ?_
  refine r_iload_n C dX5_fall_5 rfl ?_
  refine r_icmp_ge (tgt := 34) C dX5_fall_6 (by decide) (fun hc => ?_) (fun hc => ?_)
  · have hf := ifT hf hc
    exact V.sub (wX5_fall_b34 C hret hf) (LW_s rfl (LW_n (LW_n (LW_n (LW_s rfl (LW_e))))))
  · have hf := ifF hf hc
    refine r_aload_n C dX5_fall_9 rfl ?_
    refine r_aload_n C dX5_fall_10 rfl ?_
    refine r_iload_n C dX5_fall_11 rfl ?_
    obtain ⟨a2, ea2, hf⟩ := bS hf
    obtain ⟨r1, er1, hf⟩ := bS hf
    refine r_invV1 (As := [.inr w1, .inl x2]) (ci := 5) C dX5_fall_12 mcX5_canFall wd_675 wd_677 wp_6 rfl rfl (by decide) ⟨by decide, by decide⟩ ⟨by decide, by decide⟩ rfl (Nat.le_of_ble_eq_true rfl) ea2 (kX5_canFall l G er1) ?_
    refine r_if_eq (tgt := 34) C dX5_fall_15 (by decide) (fun hc => ?_) (fun hc => ?_)
    · have hf := ifT hf hc
      exact V.sub (wX5_fall_b34 C hret hf) (LW_s rfl (LW_n (LW_n (LW_n (LW_s rfl (LW_e))))))
    · have hf := ifF hf hc
      refine r_aload_n C dX5_fall_18 rfl ?_
      refine r_dup C dX5_fall_19 ?_
      obtain ⟨v3, ev3, hf⟩ := bS hf
      refine r_getI C dX5_fall_20 fl_X5_87 rfl ev3 ?_
      refine r_iload_n C dX5_fall_23 rfl ?_
      refine r_iadd C dX5_fall_24 ?_
      obtain ⟨h4, eh4, hf⟩ := bS hf
      refine r_putI C dX5_fall_25 fl_X5_87 (Or.inl fn_9_7) rfl eh4 ?_
      obtain ⟨y5, ey5, hf⟩ := bS hf
      refine r_iincE (v := 1) C dX5_fall_28 rfl (by decide) (by decide) ey5 ?_
      refine r_goto (tgt := 3) C dX5_fall_31 (by decide) ?_
      exact V.sub (hg3 _ _ _ _ _ hf) (LW_s rfl (LW_s rfl (LW_s rfl (LW_s rfl (LW_s rfl (LW_e))))))
theorem wX5_fall_b3 {p : Program} {l : Launch} {e : Env} {s : State} {m : MethodId} {args : Array Value} {below : List Frame} {meth : Method} {c : Code} {G : Gl} {N : Nat} {r : Int32 × Hs}  {t : Nat} (C : Cx p s m args meth c cX5_fall RX5 5 G) (hret : meth.sig.returnType = (some .int))  : ∀ (n : Nat) (h : Hs) (w1 : Option Nat) (x2 : Int32) (x3 : Int32) (x4 : Int32), fX5_fall_b3 N  t n h w1 x2 x3 x4 = some r → V p l e rmX5_fall s m args below meth c G 5 (MQ below (QcG G (some (.inl r.1)) r.2) args s rmX5_fall.cells rmX5_fall.slots (AG G)) h 0 0 3 [some (.inr (some t)), some (.inr w1), some (.inl x2), some (.inl x3), some (.inl x4)] [] := by
  intro n
  induction n with
  | zero => intro h w1 x2 x3 x4 hf; exact absurd (show (none : Option (Int32 × Hs)) = some r from hf) (fun q => by cases q)
  | succ n ih => intro h w1 x2 x3 x4 hf; exact wX5_fall_b3_body C hret  ih (show fX5_fall_b3_body N  (fX5_fall_b3 N  t n) t h w1 x2 x3 x4 = some r from hf)
noncomputable def fX5_fall (N : Nat) (h : Hs) (t : Nat) (p1 : Option Nat) (p2 : Int32) (p3 : Int32) : Option (Int32 × Hs) :=
  fX5_fall_b3 N t N h p1 p2 p3 0
set_option maxHeartbeats 4000000 in
set_option maxRecDepth 20000 in
theorem kX5_fall (l : Launch) (G : Gl) {N : Nat} {h : Hs} {t : Nat} {p1 : Option Nat} {p2 : Int32} {p3 : Int32} {r : Int32 × Hs} (hf : fX5_fall N h t p1 p2 p3 = some r) : CT l G yX5_fall cX5_fall 5 (some .int) rmX5_fall [.inr (some t), .inr p1, .inl p2, .inl p3] h (some (.inl r.1)) r.2 := by
  refine mk_CT (by decide) (Nat.le_of_ble_eq_true rfl) ?_
  intro p e s m args below meth c C hret hin
  unfold fX5_fall at hf
  refine r_iconst (v := 0) C dX5_fall_0 (by decide) ?_
  refine r_istore C dX5_fall_1 (by decide) ?_
  exact V.sub (wX5_fall_b3 C hret N _ _ _ _ _ hf) (LW_s rfl (LW_s rfl (LW_s rfl (LW_s rfl (LW_s rfl (LW_e))))))

theorem dgX5_breakRope_0 : (decode cX5_breakRope 0 = .ok (.aload_n 0, 1)) ∧ (decode cX5_breakRope 1 = .ok (.iload_n 1, 1)) ∧ (decode cX5_breakRope 2 = .ok (.invokevirtual 97, 3)) ∧ (decode cX5_breakRope 5 = .ok (.astore_n 2, 1)) ∧ (decode cX5_breakRope 6 = .ok (.aload_n 2, 1)) ∧ (decode cX5_breakRope 7 = .ok (.ifnonnull 5, 3)) ∧ True := dkW [(0, .aload_n 0, 1), (1, .iload_n 1, 1), (2, .invokevirtual 97, 3), (5, .astore_n 2, 1), (6, .aload_n 2, 1), (7, .ifnonnull 5, 3)] 0 (by decide +kernel)
theorem dX5_breakRope_0 : decode cX5_breakRope 0 = .ok (.aload_n 0, 1) := dgX5_breakRope_0.1
theorem dX5_breakRope_1 : decode cX5_breakRope 1 = .ok (.iload_n 1, 1) := dgX5_breakRope_0.2.1
theorem dX5_breakRope_2 : decode cX5_breakRope 2 = .ok (.invokevirtual 97, 3) := dgX5_breakRope_0.2.2.1
theorem dX5_breakRope_5 : decode cX5_breakRope 5 = .ok (.astore_n 2, 1) := dgX5_breakRope_0.2.2.2.1
theorem dX5_breakRope_6 : decode cX5_breakRope 6 = .ok (.aload_n 2, 1) := dgX5_breakRope_0.2.2.2.2.1
theorem dX5_breakRope_7 : decode cX5_breakRope 7 = .ok (.ifnonnull 5, 3) := dgX5_breakRope_0.2.2.2.2.2.1
theorem dX5_breakRope_10 : decode cX5_breakRope 10 = .ok (.iconst (-1), 1) := by decide +kernel
theorem dgX5_breakRope_11 : (decode cX5_breakRope 11 = .ok (.ireturn, 1)) ∧ (decode cX5_breakRope 12 = .ok (.aload_n 2, 1)) ∧ (decode cX5_breakRope 13 = .ok (.getfield 125, 3)) ∧ (decode cX5_breakRope 16 = .ok (.ifnonnull 6, 3)) ∧ (decode cX5_breakRope 19 = .ok (.bipush (-2), 2)) ∧ (decode cX5_breakRope 21 = .ok (.ireturn, 1)) ∧ (decode cX5_breakRope 22 = .ok (.aload_n 2, 1)) ∧ (decode cX5_breakRope 23 = .ok (.getfield 130, 3)) ∧ (decode cX5_breakRope 26 = .ok (.ifCond .le 21, 3)) ∧ (decode cX5_breakRope 29 = .ok (.aload_n 2, 1)) ∧ (decode cX5_breakRope 30 = .ok (.getfield 109, 3)) ∧ (decode cX5_breakRope 33 = .ok (.getfield 87, 3)) ∧ True := dkW [(11, .ireturn, 1), (12, .aload_n 2, 1), (13, .getfield 125, 3), (16, .ifnonnull 6, 3), (19, .bipush (-2), 2), (21, .ireturn, 1), (22, .aload_n 2, 1), (23, .getfield 130, 3), (26, .ifCond .le 21, 3), (29, .aload_n 2, 1), (30, .getfield 109, 3), (33, .getfield 87, 3)] 11 (by decide +kernel)
theorem dX5_breakRope_11 : decode cX5_breakRope 11 = .ok (.ireturn, 1) := dgX5_breakRope_11.1
theorem dX5_breakRope_12 : decode cX5_breakRope 12 = .ok (.aload_n 2, 1) := dgX5_breakRope_11.2.1
theorem dX5_breakRope_13 : decode cX5_breakRope 13 = .ok (.getfield 125, 3) := dgX5_breakRope_11.2.2.1
theorem dX5_breakRope_16 : decode cX5_breakRope 16 = .ok (.ifnonnull 6, 3) := dgX5_breakRope_11.2.2.2.1
theorem dX5_breakRope_19 : decode cX5_breakRope 19 = .ok (.bipush (-2), 2) := dgX5_breakRope_11.2.2.2.2.1
theorem dX5_breakRope_21 : decode cX5_breakRope 21 = .ok (.ireturn, 1) := dgX5_breakRope_11.2.2.2.2.2.1
theorem dX5_breakRope_22 : decode cX5_breakRope 22 = .ok (.aload_n 2, 1) := dgX5_breakRope_11.2.2.2.2.2.2.1
theorem dX5_breakRope_23 : decode cX5_breakRope 23 = .ok (.getfield 130, 3) := dgX5_breakRope_11.2.2.2.2.2.2.2.1
theorem dX5_breakRope_26 : decode cX5_breakRope 26 = .ok (.ifCond .le 21, 3) := dgX5_breakRope_11.2.2.2.2.2.2.2.2.1
theorem dX5_breakRope_29 : decode cX5_breakRope 29 = .ok (.aload_n 2, 1) := dgX5_breakRope_11.2.2.2.2.2.2.2.2.2.1
theorem dX5_breakRope_30 : decode cX5_breakRope 30 = .ok (.getfield 109, 3) := dgX5_breakRope_11.2.2.2.2.2.2.2.2.2.2.1
theorem dX5_breakRope_33 : decode cX5_breakRope 33 = .ok (.getfield 87, 3) := dgX5_breakRope_11.2.2.2.2.2.2.2.2.2.2.2.1
theorem dgX5_breakRope_36 : (decode cX5_breakRope 36 = .ok (.aload_n 2, 1)) ∧ (decode cX5_breakRope 37 = .ok (.getfield 143, 3)) ∧ (decode cX5_breakRope 40 = .ok (.isub, 1)) ∧ (decode cX5_breakRope 41 = .ok (.invokestatic 169, 3)) ∧ (decode cX5_breakRope 44 = .ok (.goto 4, 3)) ∧ (decode cX5_breakRope 47 = .ok (.iconst 0, 1)) ∧ (decode cX5_breakRope 48 = .ok (.istore_n 3, 1)) ∧ (decode cX5_breakRope 49 = .ok (.aload_n 2, 1)) ∧ (decode cX5_breakRope 50 = .ok (.invokevirtual 133, 3)) ∧ (decode cX5_breakRope 53 = .ok (.aload_n 2, 1)) ∧ (decode cX5_breakRope 54 = .ok (.iconst 1, 1)) ∧ (decode cX5_breakRope 55 = .ok (.putfield 105, 3)) ∧ True := dkW [(36, .aload_n 2, 1), (37, .getfield 143, 3), (40, .isub, 1), (41, .invokestatic 169, 3), (44, .goto 4, 3), (47, .iconst 0, 1), (48, .istore_n 3, 1), (49, .aload_n 2, 1), (50, .invokevirtual 133, 3), (53, .aload_n 2, 1), (54, .iconst 1, 1), (55, .putfield 105, 3)] 36 (by decide +kernel)
theorem dX5_breakRope_36 : decode cX5_breakRope 36 = .ok (.aload_n 2, 1) := dgX5_breakRope_36.1
theorem dX5_breakRope_37 : decode cX5_breakRope 37 = .ok (.getfield 143, 3) := dgX5_breakRope_36.2.1
theorem dX5_breakRope_40 : decode cX5_breakRope 40 = .ok (.isub, 1) := dgX5_breakRope_36.2.2.1
theorem dX5_breakRope_41 : decode cX5_breakRope 41 = .ok (.invokestatic 169, 3) := dgX5_breakRope_36.2.2.2.1
theorem dX5_breakRope_44 : decode cX5_breakRope 44 = .ok (.goto 4, 3) := dgX5_breakRope_36.2.2.2.2.1
theorem dX5_breakRope_47 : decode cX5_breakRope 47 = .ok (.iconst 0, 1) := dgX5_breakRope_36.2.2.2.2.2.1
theorem dX5_breakRope_48 : decode cX5_breakRope 48 = .ok (.istore_n 3, 1) := dgX5_breakRope_36.2.2.2.2.2.2.1
theorem dX5_breakRope_49 : decode cX5_breakRope 49 = .ok (.aload_n 2, 1) := dgX5_breakRope_36.2.2.2.2.2.2.2.1
theorem dX5_breakRope_50 : decode cX5_breakRope 50 = .ok (.invokevirtual 133, 3) := dgX5_breakRope_36.2.2.2.2.2.2.2.2.1
theorem dX5_breakRope_53 : decode cX5_breakRope 53 = .ok (.aload_n 2, 1) := dgX5_breakRope_36.2.2.2.2.2.2.2.2.2.1
theorem dX5_breakRope_54 : decode cX5_breakRope 54 = .ok (.iconst 1, 1) := dgX5_breakRope_36.2.2.2.2.2.2.2.2.2.2.1
theorem dX5_breakRope_55 : decode cX5_breakRope 55 = .ok (.putfield 105, 3) := dgX5_breakRope_36.2.2.2.2.2.2.2.2.2.2.2.1
theorem dgX5_breakRope_58 : (decode cX5_breakRope 58 = .ok (.aload_n 0, 1)) ∧ (decode cX5_breakRope 59 = .ok (.aload_n 2, 1)) ∧ (decode cX5_breakRope 60 = .ok (.getfield 109, 3)) ∧ (decode cX5_breakRope 63 = .ok (.aload_n 2, 1)) ∧ (decode cX5_breakRope 64 = .ok (.getfield 174, 3)) ∧ (decode cX5_breakRope 67 = .ok (.ineg, 1)) ∧ (decode cX5_breakRope 68 = .ok (.iload_n 3, 1)) ∧ (decode cX5_breakRope 69 = .ok (.invokevirtual 177, 3)) ∧ (decode cX5_breakRope 72 = .ok (.ireturn, 1)) ∧ True := dkW [(58, .aload_n 0, 1), (59, .aload_n 2, 1), (60, .getfield 109, 3), (63, .aload_n 2, 1), (64, .getfield 174, 3), (67, .ineg, 1), (68, .iload_n 3, 1), (69, .invokevirtual 177, 3), (72, .ireturn, 1)] 58 (by decide +kernel)
theorem dX5_breakRope_58 : decode cX5_breakRope 58 = .ok (.aload_n 0, 1) := dgX5_breakRope_58.1
theorem dX5_breakRope_59 : decode cX5_breakRope 59 = .ok (.aload_n 2, 1) := dgX5_breakRope_58.2.1
theorem dX5_breakRope_60 : decode cX5_breakRope 60 = .ok (.getfield 109, 3) := dgX5_breakRope_58.2.2.1
theorem dX5_breakRope_63 : decode cX5_breakRope 63 = .ok (.aload_n 2, 1) := dgX5_breakRope_58.2.2.2.1
theorem dX5_breakRope_64 : decode cX5_breakRope 64 = .ok (.getfield 174, 3) := dgX5_breakRope_58.2.2.2.2.1
theorem dX5_breakRope_67 : decode cX5_breakRope 67 = .ok (.ineg, 1) := dgX5_breakRope_58.2.2.2.2.2.1
theorem dX5_breakRope_68 : decode cX5_breakRope 68 = .ok (.iload_n 3, 1) := dgX5_breakRope_58.2.2.2.2.2.2.1
theorem dX5_breakRope_69 : decode cX5_breakRope 69 = .ok (.invokevirtual 177, 3) := dgX5_breakRope_58.2.2.2.2.2.2.2.1
theorem dX5_breakRope_72 : decode cX5_breakRope 72 = .ok (.ireturn, 1) := dgX5_breakRope_58.2.2.2.2.2.2.2.2.1
abbrev rmX5_breakRope : Room := { frames := 4, cells := 0, slots := 0, locals := 96 }
noncomputable def fX5_breakRope_b48 (N : Nat)  (t : Nat) (h : Hs) (w2 : Option Nat) (u0 : Int32) : Option (Int32 × Hs) :=
  (rc 4 h w2).bind fun a2 =>
  (fX4_loosen N h a2 ).bind fun r1 =>
  (qZ 4 8 r1 w2 1).bind fun h3 =>
  (oR 4 1 h3 w2).bind fun o4 =>
  (oI 4 2 h3 w2).bind fun v5 =>
  (rc 5 h3 (some t)).bind fun a7 =>
  (fX5_fall N h3 a7 o4 (-v5) u0).bind fun r6 =>
  some (r6.1, r6.2)
set_option maxHeartbeats 4000000 in
set_option maxRecDepth 20000 in
theorem wX5_breakRope_b48 {p : Program} {l : Launch} {e : Env} {s : State} {m : MethodId} {args : Array Value} {below : List Frame} {meth : Method} {c : Code} {G : Gl} {N : Nat} {h : Hs} {r : Int32 × Hs}  {t : Nat} {w2 : Option Nat} {u0 : Int32} (C : Cx p s m args meth c cX5_breakRope RX5 4 G) (hret : meth.sig.returnType = (some .int))  (hf : fX5_breakRope_b48 N  t h w2 u0 = some r) : V p l e rmX5_breakRope s m args below meth c G 4 (MQ below (QcG G (some (.inl r.1)) r.2) args s rmX5_breakRope.cells rmX5_breakRope.slots (AG G)) h 0 0 48 [some (.inr (some t)), none, some (.inr w2), none] [.inl u0] := by
  unfold fX5_breakRope_b48 at hf
  refine r_istore_n C dX5_breakRope_48 (by decide) ?_
  refine r_aload_n C dX5_breakRope_49 rfl ?_
  obtain ⟨a2, ea2, hf⟩ := bS hf
  obtain ⟨r1, er1, hf⟩ := bS hf
  refine r_invV0 (As := []) (ci := 4) C dX5_breakRope_50 mcX4_loosen wd_531 wd_532 wd_533 rfl rfl (by decide) ⟨by decide, by decide⟩ ⟨by decide, by decide⟩ rfl (Nat.le_of_ble_eq_true rfl) ea2 (kX4_loosen l G er1) ?_
  refine r_aload_n C dX5_breakRope_53 rfl ?_
  refine r_iconst (v := 1) C dX5_breakRope_54 (by decide) ?_
  obtain ⟨h3, eh3, hf⟩ := bS hf
  refine r_putZ C dX5_breakRope_55 fl_X5_105 (Or.inl fn_4_8) rfl eh3 ?_
  refine r_aload_n C dX5_breakRope_58 rfl ?_
  refine r_aload_n C dX5_breakRope_59 rfl ?_
  obtain ⟨o4, eo4, hf⟩ := bS hf
  refine r_getR C dX5_breakRope_60 fl_X5_109 rfl eo4 ?_
  refine r_aload_n C dX5_breakRope_63 rfl ?_
  obtain ⟨v5, ev5, hf⟩ := bS hf
  refine r_getI C dX5_breakRope_64 fl_X5_174 rfl ev5 ?_
  refine r_ineg C dX5_breakRope_67 ?_
  refine r_iload_n C dX5_breakRope_68 rfl ?_
  obtain ⟨a7, ea7, hf⟩ := bS hf
  obtain ⟨r6, er6, hf⟩ := bS hf
  refine r_invV1 (As := [.inr o4, .inl (-v5), .inl u0]) (ci := 5) C dX5_breakRope_69 mcX5_fall wd_671 wd_673 wp_5 rfl rfl (by decide) ⟨by decide, by decide⟩ ⟨by decide, by decide⟩ rfl (Nat.le_of_ble_eq_true rfl) ea7 (kX5_fall l G er6) ?_
  exact r_iretF C dX5_breakRope_72 hret hf (by decide) (by decide)
noncomputable def fX5_breakRope (N : Nat) (h : Hs) (t : Nat) (p1 : Int32) : Option (Int32 × Hs) :=
  (rc 5 h (some t)).bind fun a2 =>
  (fX5_ropeNumbered N h a2 p1).bind fun r1 =>
  if r1.1 = none then (
  some ((-1), r1.2))
  else (oR 4 5 r1.2 r1.1).bind fun o3 =>
  if o3 = none then (
  some ((-2), r1.2))
  else (oI 4 7 r1.2 r1.1).bind fun v4 =>
  if v4 ≤ 0 then (
  fX5_breakRope_b48 N t r1.2 r1.1 0)
  else (oR 4 1 r1.2 r1.1).bind fun o5 =>
  (oI 9 7 r1.2 o5).bind fun v6 =>
  (oI 4 6 r1.2 r1.1).bind fun v7 =>
  fX5_breakRope_b48 N t r1.2 r1.1 (if 0 ≤ (v6 - v7) then v6 - v7 else 0 - (v6 - v7) : Int32)
set_option maxHeartbeats 4000000 in
set_option maxRecDepth 20000 in
theorem kX5_breakRope (l : Launch) (G : Gl) {N : Nat} {h : Hs} {t : Nat} {p1 : Int32} {r : Int32 × Hs} (hf : fX5_breakRope N h t p1 = some r) : CT l G yX5_breakRope cX5_breakRope 4 (some .int) rmX5_breakRope [.inr (some t), .inl p1] h (some (.inl r.1)) r.2 := by
  refine mk_CT (by decide) (Nat.le_of_ble_eq_true rfl) ?_
  intro p e s m args below meth c C hret hin
  unfold fX5_breakRope at hf
  refine r_aload_n C dX5_breakRope_0 rfl ?_
  refine r_iload_n C dX5_breakRope_1 rfl ?_
  obtain ⟨a2, ea2, hf⟩ := bS hf
  obtain ⟨r1, er1, hf⟩ := bS hf
  refine r_invV1 (As := [.inl p1]) (ci := 5) C dX5_breakRope_2 mcX5_ropeNumbered wd_509 wd_485 wd_486 rfl rfl (by decide) ⟨by decide, by decide⟩ ⟨by decide, by decide⟩ rfl (Nat.le_of_ble_eq_true rfl) ea2 (kX5_ropeNumbered l G er1) ?_
  refine r_astore_n C dX5_breakRope_5 (by decide) ?_
  refine r_aload_n C dX5_breakRope_6 rfl ?_
  refine r_ifnonnull (tgt := 12) C dX5_breakRope_7 (by decide) (fun hc => ?_) (fun hc => ?_)
  · have hf := ifF hf hc
    refine r_aload_n C dX5_breakRope_12 rfl ?_
    obtain ⟨o3, eo3, hf⟩ := bS hf
    refine r_getR C dX5_breakRope_13 fl_X5_125 rfl eo3 ?_
    refine r_ifnonnull (tgt := 22) C dX5_breakRope_16 (by decide) (fun hc => ?_) (fun hc => ?_)
    · have hf := ifF hf hc
      refine r_aload_n C dX5_breakRope_22 rfl ?_
      obtain ⟨v4, ev4, hf⟩ := bS hf
      refine r_getI C dX5_breakRope_23 fl_X5_130 rfl ev4 ?_
      refine r_if_le (tgt := 47) C dX5_breakRope_26 (by decide) (fun hc => ?_) (fun hc => ?_)
      · have hf := ifT hf hc
        refine r_iconst (v := 0) C dX5_breakRope_47 (by decide) ?_
        exact V.sub (wX5_breakRope_b48 C hret hf) (LW_s rfl (LW_n (LW_s rfl (LW_n (LW_e)))))
      · have hf := ifF hf hc
        refine r_aload_n C dX5_breakRope_29 rfl ?_
        obtain ⟨o5, eo5, hf⟩ := bS hf
        refine r_getR C dX5_breakRope_30 fl_X5_109 rfl eo5 ?_
        obtain ⟨v6, ev6, hf⟩ := bS hf
        refine r_getI C dX5_breakRope_33 fl_X5_87 rfl ev6 ?_
        refine r_aload_n C dX5_breakRope_36 rfl ?_
        obtain ⟨v7, ev7, hf⟩ := bS hf
        refine r_getI C dX5_breakRope_37 fl_X5_143 rfl ev7 ?_
        refine r_isub C dX5_breakRope_40 ?_
        refine r_mabs C dX5_breakRope_41 ⟨wd_649, wd_599, wd_14, wd_600⟩ (by decide) (Nat.le_of_ble_eq_true rfl) (by decide) (by decide) ?_
        refine r_goto (tgt := 48) C dX5_breakRope_44 (by decide) ?_
        exact V.sub (wX5_breakRope_b48 C hret hf) (LW_s rfl (LW_n (LW_s rfl (LW_n (LW_e)))))
    · have hf := ifT hf hc
      refine r_bipush (v := -2) C dX5_breakRope_19 (by decide) ?_
      exact r_iretF C dX5_breakRope_21 hret hf (by decide) (by decide)
  · have hf := ifT hf hc
    refine r_iconst (v := -1) C dX5_breakRope_10 (by decide) ?_
    exact r_iretF C dX5_breakRope_11 hret hf (by decide) (by decide)

theorem dgX5_addCatch_0 : (decode cX5_addCatch 0 = .ok (.iload_n 1, 1)) ∧ (decode cX5_addCatch 1 = .ok (.invokestatic 60, 3)) ∧ (decode cX5_addCatch 4 = .ok (.ifCond .ne 5, 3)) ∧ True := dkW [(0, .iload_n 1, 1), (1, .invokestatic 60, 3), (4, .ifCond .ne 5, 3)] 0 (by decide +kernel)
theorem dX5_addCatch_0 : decode cX5_addCatch 0 = .ok (.iload_n 1, 1) := dgX5_addCatch_0.1
theorem dX5_addCatch_1 : decode cX5_addCatch 1 = .ok (.invokestatic 60, 3) := dgX5_addCatch_0.2.1
theorem dX5_addCatch_4 : decode cX5_addCatch 4 = .ok (.ifCond .ne 5, 3) := dgX5_addCatch_0.2.2.1
theorem dX5_addCatch_7 : decode cX5_addCatch 7 = .ok (.iconst (-1), 1) := by decide +kernel
theorem dgX5_addCatch_8 : (decode cX5_addCatch 8 = .ok (.ireturn, 1)) ∧ (decode cX5_addCatch 9 = .ok (.iload_n 1, 1)) ∧ (decode cX5_addCatch 10 = .ok (.bipush 100, 2)) ∧ (decode cX5_addCatch 12 = .ok (.idiv, 1)) ∧ (decode cX5_addCatch 13 = .ok (.istore_n 2, 1)) ∧ (decode cX5_addCatch 14 = .ok (.iload_n 1, 1)) ∧ (decode cX5_addCatch 15 = .ok (.bipush 100, 2)) ∧ (decode cX5_addCatch 17 = .ok (.irem, 1)) ∧ (decode cX5_addCatch 18 = .ok (.istore_n 3, 1)) ∧ (decode cX5_addCatch 19 = .ok (.aload_n 0, 1)) ∧ (decode cX5_addCatch 20 = .ok (.iload_n 2, 1)) ∧ (decode cX5_addCatch 21 = .ok (.iload_n 3, 1)) ∧ True := dkW [(8, .ireturn, 1), (9, .iload_n 1, 1), (10, .bipush 100, 2), (12, .idiv, 1), (13, .istore_n 2, 1), (14, .iload_n 1, 1), (15, .bipush 100, 2), (17, .irem, 1), (18, .istore_n 3, 1), (19, .aload_n 0, 1), (20, .iload_n 2, 1), (21, .iload_n 3, 1)] 8 (by decide +kernel)
theorem dX5_addCatch_8 : decode cX5_addCatch 8 = .ok (.ireturn, 1) := dgX5_addCatch_8.1
theorem dX5_addCatch_9 : decode cX5_addCatch 9 = .ok (.iload_n 1, 1) := dgX5_addCatch_8.2.1
theorem dX5_addCatch_10 : decode cX5_addCatch 10 = .ok (.bipush 100, 2) := dgX5_addCatch_8.2.2.1
theorem dX5_addCatch_12 : decode cX5_addCatch 12 = .ok (.idiv, 1) := dgX5_addCatch_8.2.2.2.1
theorem dX5_addCatch_13 : decode cX5_addCatch 13 = .ok (.istore_n 2, 1) := dgX5_addCatch_8.2.2.2.2.1
theorem dX5_addCatch_14 : decode cX5_addCatch 14 = .ok (.iload_n 1, 1) := dgX5_addCatch_8.2.2.2.2.2.1
theorem dX5_addCatch_15 : decode cX5_addCatch 15 = .ok (.bipush 100, 2) := dgX5_addCatch_8.2.2.2.2.2.2.1
theorem dX5_addCatch_17 : decode cX5_addCatch 17 = .ok (.irem, 1) := dgX5_addCatch_8.2.2.2.2.2.2.2.1
theorem dX5_addCatch_18 : decode cX5_addCatch 18 = .ok (.istore_n 3, 1) := dgX5_addCatch_8.2.2.2.2.2.2.2.2.1
theorem dX5_addCatch_19 : decode cX5_addCatch 19 = .ok (.aload_n 0, 1) := dgX5_addCatch_8.2.2.2.2.2.2.2.2.2.1
theorem dX5_addCatch_20 : decode cX5_addCatch 20 = .ok (.iload_n 2, 1) := dgX5_addCatch_8.2.2.2.2.2.2.2.2.2.2.1
theorem dX5_addCatch_21 : decode cX5_addCatch 21 = .ok (.iload_n 3, 1) := dgX5_addCatch_8.2.2.2.2.2.2.2.2.2.2.2.1
theorem dgX5_addCatch_22 : (decode cX5_addCatch 22 = .ok (.invokevirtual 185, 3)) ∧ (decode cX5_addCatch 25 = .ok (.ifCond .eq 5, 3)) ∧ True := dkW [(22, .invokevirtual 185, 3), (25, .ifCond .eq 5, 3)] 22 (by decide +kernel)
theorem dX5_addCatch_22 : decode cX5_addCatch 22 = .ok (.invokevirtual 185, 3) := dgX5_addCatch_22.1
theorem dX5_addCatch_25 : decode cX5_addCatch 25 = .ok (.ifCond .eq 5, 3) := dgX5_addCatch_22.2.1
theorem dX5_addCatch_28 : decode cX5_addCatch 28 = .ok (.iconst (-1), 1) := by decide +kernel
theorem dgX5_addCatch_29 : (decode cX5_addCatch 29 = .ok (.ireturn, 1)) ∧ (decode cX5_addCatch 30 = .ok (.aload_n 0, 1)) ∧ (decode cX5_addCatch 31 = .ok (.getfield 39, 3)) ∧ (decode cX5_addCatch 34 = .ok (.iload_n 2, 1)) ∧ (decode cX5_addCatch 35 = .ok (.iaload, 1)) ∧ (decode cX5_addCatch 36 = .ok (.iconst 5, 1)) ∧ (decode cX5_addCatch 37 = .ok (.if_icmp .lt 6, 3)) ∧ (decode cX5_addCatch 40 = .ok (.bipush (-3), 2)) ∧ (decode cX5_addCatch 42 = .ok (.ireturn, 1)) ∧ (decode cX5_addCatch 43 = .ok (.aload_n 0, 1)) ∧ (decode cX5_addCatch 44 = .ok (.getfield 36, 3)) ∧ (decode cX5_addCatch 47 = .ok (.iload_n 2, 1)) ∧ True := dkW [(29, .ireturn, 1), (30, .aload_n 0, 1), (31, .getfield 39, 3), (34, .iload_n 2, 1), (35, .iaload, 1), (36, .iconst 5, 1), (37, .if_icmp .lt 6, 3), (40, .bipush (-3), 2), (42, .ireturn, 1), (43, .aload_n 0, 1), (44, .getfield 36, 3), (47, .iload_n 2, 1)] 29 (by decide +kernel)
theorem dX5_addCatch_29 : decode cX5_addCatch 29 = .ok (.ireturn, 1) := dgX5_addCatch_29.1
theorem dX5_addCatch_30 : decode cX5_addCatch 30 = .ok (.aload_n 0, 1) := dgX5_addCatch_29.2.1
theorem dX5_addCatch_31 : decode cX5_addCatch 31 = .ok (.getfield 39, 3) := dgX5_addCatch_29.2.2.1
theorem dX5_addCatch_34 : decode cX5_addCatch 34 = .ok (.iload_n 2, 1) := dgX5_addCatch_29.2.2.2.1
theorem dX5_addCatch_35 : decode cX5_addCatch 35 = .ok (.iaload, 1) := dgX5_addCatch_29.2.2.2.2.1
theorem dX5_addCatch_36 : decode cX5_addCatch 36 = .ok (.iconst 5, 1) := dgX5_addCatch_29.2.2.2.2.2.1
theorem dX5_addCatch_37 : decode cX5_addCatch 37 = .ok (.if_icmp .lt 6, 3) := dgX5_addCatch_29.2.2.2.2.2.2.1
theorem dX5_addCatch_40 : decode cX5_addCatch 40 = .ok (.bipush (-3), 2) := dgX5_addCatch_29.2.2.2.2.2.2.2.1
theorem dX5_addCatch_42 : decode cX5_addCatch 42 = .ok (.ireturn, 1) := dgX5_addCatch_29.2.2.2.2.2.2.2.2.1
theorem dX5_addCatch_43 : decode cX5_addCatch 43 = .ok (.aload_n 0, 1) := dgX5_addCatch_29.2.2.2.2.2.2.2.2.2.1
theorem dX5_addCatch_44 : decode cX5_addCatch 44 = .ok (.getfield 36, 3) := dgX5_addCatch_29.2.2.2.2.2.2.2.2.2.2.1
theorem dX5_addCatch_47 : decode cX5_addCatch 47 = .ok (.iload_n 2, 1) := dgX5_addCatch_29.2.2.2.2.2.2.2.2.2.2.2.1
theorem dgX5_addCatch_48 : (decode cX5_addCatch 48 = .ok (.iconst 5, 1)) ∧ (decode cX5_addCatch 49 = .ok (.imul, 1)) ∧ (decode cX5_addCatch 50 = .ok (.aload_n 0, 1)) ∧ (decode cX5_addCatch 51 = .ok (.getfield 39, 3)) ∧ (decode cX5_addCatch 54 = .ok (.iload_n 2, 1)) ∧ (decode cX5_addCatch 55 = .ok (.iaload, 1)) ∧ (decode cX5_addCatch 56 = .ok (.iadd, 1)) ∧ (decode cX5_addCatch 57 = .ok (.iload_n 3, 1)) ∧ (decode cX5_addCatch 58 = .ok (.iastore, 1)) ∧ (decode cX5_addCatch 59 = .ok (.aload_n 0, 1)) ∧ (decode cX5_addCatch 60 = .ok (.getfield 39, 3)) ∧ (decode cX5_addCatch 63 = .ok (.iload_n 2, 1)) ∧ True := dkW [(48, .iconst 5, 1), (49, .imul, 1), (50, .aload_n 0, 1), (51, .getfield 39, 3), (54, .iload_n 2, 1), (55, .iaload, 1), (56, .iadd, 1), (57, .iload_n 3, 1), (58, .iastore, 1), (59, .aload_n 0, 1), (60, .getfield 39, 3), (63, .iload_n 2, 1)] 48 (by decide +kernel)
theorem dX5_addCatch_48 : decode cX5_addCatch 48 = .ok (.iconst 5, 1) := dgX5_addCatch_48.1
theorem dX5_addCatch_49 : decode cX5_addCatch 49 = .ok (.imul, 1) := dgX5_addCatch_48.2.1
theorem dX5_addCatch_50 : decode cX5_addCatch 50 = .ok (.aload_n 0, 1) := dgX5_addCatch_48.2.2.1
theorem dX5_addCatch_51 : decode cX5_addCatch 51 = .ok (.getfield 39, 3) := dgX5_addCatch_48.2.2.2.1
theorem dX5_addCatch_54 : decode cX5_addCatch 54 = .ok (.iload_n 2, 1) := dgX5_addCatch_48.2.2.2.2.1
theorem dX5_addCatch_55 : decode cX5_addCatch 55 = .ok (.iaload, 1) := dgX5_addCatch_48.2.2.2.2.2.1
theorem dX5_addCatch_56 : decode cX5_addCatch 56 = .ok (.iadd, 1) := dgX5_addCatch_48.2.2.2.2.2.2.1
theorem dX5_addCatch_57 : decode cX5_addCatch 57 = .ok (.iload_n 3, 1) := dgX5_addCatch_48.2.2.2.2.2.2.2.1
theorem dX5_addCatch_58 : decode cX5_addCatch 58 = .ok (.iastore, 1) := dgX5_addCatch_48.2.2.2.2.2.2.2.2.1
theorem dX5_addCatch_59 : decode cX5_addCatch 59 = .ok (.aload_n 0, 1) := dgX5_addCatch_48.2.2.2.2.2.2.2.2.2.1
theorem dX5_addCatch_60 : decode cX5_addCatch 60 = .ok (.getfield 39, 3) := dgX5_addCatch_48.2.2.2.2.2.2.2.2.2.2.1
theorem dX5_addCatch_63 : decode cX5_addCatch 63 = .ok (.iload_n 2, 1) := dgX5_addCatch_48.2.2.2.2.2.2.2.2.2.2.2.1
theorem dgX5_addCatch_64 : (decode cX5_addCatch 64 = .ok (.dup2, 1)) ∧ (decode cX5_addCatch 65 = .ok (.iaload, 1)) ∧ (decode cX5_addCatch 66 = .ok (.iconst 1, 1)) ∧ (decode cX5_addCatch 67 = .ok (.iadd, 1)) ∧ (decode cX5_addCatch 68 = .ok (.iastore, 1)) ∧ (decode cX5_addCatch 69 = .ok (.aload_n 0, 1)) ∧ (decode cX5_addCatch 70 = .ok (.getfield 39, 3)) ∧ (decode cX5_addCatch 73 = .ok (.iload_n 2, 1)) ∧ (decode cX5_addCatch 74 = .ok (.iaload, 1)) ∧ (decode cX5_addCatch 75 = .ok (.ireturn, 1)) ∧ True := dkW [(64, .dup2, 1), (65, .iaload, 1), (66, .iconst 1, 1), (67, .iadd, 1), (68, .iastore, 1), (69, .aload_n 0, 1), (70, .getfield 39, 3), (73, .iload_n 2, 1), (74, .iaload, 1), (75, .ireturn, 1)] 64 (by decide +kernel)
theorem dX5_addCatch_64 : decode cX5_addCatch 64 = .ok (.dup2, 1) := dgX5_addCatch_64.1
theorem dX5_addCatch_65 : decode cX5_addCatch 65 = .ok (.iaload, 1) := dgX5_addCatch_64.2.1
theorem dX5_addCatch_66 : decode cX5_addCatch 66 = .ok (.iconst 1, 1) := dgX5_addCatch_64.2.2.1
theorem dX5_addCatch_67 : decode cX5_addCatch 67 = .ok (.iadd, 1) := dgX5_addCatch_64.2.2.2.1
theorem dX5_addCatch_68 : decode cX5_addCatch 68 = .ok (.iastore, 1) := dgX5_addCatch_64.2.2.2.2.1
theorem dX5_addCatch_69 : decode cX5_addCatch 69 = .ok (.aload_n 0, 1) := dgX5_addCatch_64.2.2.2.2.2.1
theorem dX5_addCatch_70 : decode cX5_addCatch 70 = .ok (.getfield 39, 3) := dgX5_addCatch_64.2.2.2.2.2.2.1
theorem dX5_addCatch_73 : decode cX5_addCatch 73 = .ok (.iload_n 2, 1) := dgX5_addCatch_64.2.2.2.2.2.2.2.1
theorem dX5_addCatch_74 : decode cX5_addCatch 74 = .ok (.iaload, 1) := dgX5_addCatch_64.2.2.2.2.2.2.2.2.1
theorem dX5_addCatch_75 : decode cX5_addCatch 75 = .ok (.ireturn, 1) := dgX5_addCatch_64.2.2.2.2.2.2.2.2.2.1
abbrev rmX5_addCatch : Room := { frames := 2, cells := 0, slots := 0, locals := 42 }
noncomputable def fX5_addCatch (N : Nat) (h : Hs) (t : Nat) (p1 : Int32) : Option (Int32 × Hs) :=
  (fX5_isStagePlace N h p1).bind fun r1 =>
  if r1.1 = 0 then (
  some ((-1), r1.2))
  else (some (p1 / 100)).bind fun y2 =>
  (some (p1 - p1 / 100 * 100)).bind fun y3 =>
  (rc 5 r1.2 (some t)).bind fun a5 =>
  (fX5_isCatch N r1.2 a5 y2 y3).bind fun r4 =>
  if r4.1 = 0 then (
  (oR 5 6 r4.2 (some t)).bind fun o6 =>
  (lA 20 r4.2 o6 y2).bind fun v7 =>
  if v7 < 5 then (
  (oR 5 5 r4.2 (some t)).bind fun o8 =>
  (oR 5 6 r4.2 (some t)).bind fun o9 =>
  (lA 20 r4.2 o9 y2).bind fun v10 =>
  (sA r4.2 o8 ((y2 * 5) + v10) y3).bind fun h11 =>
  (oR 5 6 h11 (some t)).bind fun o12 =>
  (lA 20 h11 o12 y2).bind fun v13 =>
  (sA h11 o12 y2 (v13 + 1)).bind fun h14 =>
  (oR 5 6 h14 (some t)).bind fun o15 =>
  (lA 20 h14 o15 y2).bind fun v16 =>
  some (v16, h14))
  else some ((-3), r4.2))
  else some ((-1), r4.2)
set_option maxHeartbeats 4000000 in
set_option maxRecDepth 20000 in
theorem kX5_addCatch (l : Launch) (G : Gl) {N : Nat} {h : Hs} {t : Nat} {p1 : Int32} {r : Int32 × Hs} (hf : fX5_addCatch N h t p1 = some r) : CT l G yX5_addCatch cX5_addCatch 4 (some .int) rmX5_addCatch [.inr (some t), .inl p1] h (some (.inl r.1)) r.2 := by
  refine mk_CT (by decide) (Nat.le_of_ble_eq_true rfl) ?_
  intro p e s m args below meth c C hret hin
  unfold fX5_addCatch at hf
  refine r_iload_n C dX5_addCatch_0 rfl ?_
  obtain ⟨r1, er1, hf⟩ := bS hf
  refine r_invS1 (As := [.inl p1]) C dX5_addCatch_1 mcX5_isStagePlace wd_293 wd_294 ⟨by decide, by decide⟩ ⟨by decide, by decide⟩ rfl (Nat.le_of_ble_eq_true rfl) (kX5_isStagePlace l G er1) ?_
  refine r_if_ne (tgt := 9) C dX5_addCatch_4 (by decide) (fun hc => ?_) (fun hc => ?_)
  · have hf := ifF hf hc
    refine r_iload_n C dX5_addCatch_9 rfl ?_
    refine r_bipush (v := 100) C dX5_addCatch_10 (by decide) ?_
    refine r_idivK C dX5_addCatch_12 (by decide) ?_
    obtain ⟨y2, ey2, hf⟩ := bS hf
    refine r_istore_nE C dX5_addCatch_13 (by decide) ey2 ?_
    refine r_iload_n C dX5_addCatch_14 rfl ?_
    refine r_bipush (v := 100) C dX5_addCatch_15 (by decide) ?_
    refine r_iremK C dX5_addCatch_17 (by decide) ?_
    obtain ⟨y3, ey3, hf⟩ := bS hf
    refine r_istore_nE C dX5_addCatch_18 (by decide) ey3 ?_
    refine r_aload_n C dX5_addCatch_19 rfl ?_
    refine r_iload_n C dX5_addCatch_20 rfl ?_
    refine r_iload_n C dX5_addCatch_21 rfl ?_
    obtain ⟨a5, ea5, hf⟩ := bS hf
    obtain ⟨r4, er4, hf⟩ := bS hf
    refine r_invV1 (As := [.inl y2, .inl y3]) (ci := 5) C dX5_addCatch_22 mcX5_isCatch wd_679 wd_681 wp_7 rfl rfl (by decide) ⟨by decide, by decide⟩ ⟨by decide, by decide⟩ rfl (Nat.le_of_ble_eq_true rfl) ea5 (kX5_isCatch l G er4) ?_
    refine r_if_eq (tgt := 30) C dX5_addCatch_25 (by decide) (fun hc => ?_) (fun hc => ?_)
    · have hf := ifT hf hc
      refine r_aload_n C dX5_addCatch_30 rfl ?_
      obtain ⟨o6, eo6, hf⟩ := bS hf
      refine r_getR C dX5_addCatch_31 fl_X5_39 rfl eo6 ?_
      refine r_iload_n C dX5_addCatch_34 rfl ?_
      obtain ⟨v7, ev7, hf⟩ := bS hf
      refine r_iald C dX5_addCatch_35 ev7 ?_
      refine r_iconst (v := 5) C dX5_addCatch_36 (by decide) ?_
      refine r_icmp_lt (tgt := 43) C dX5_addCatch_37 (by decide) (fun hc => ?_) (fun hc => ?_)
      · have hf := ifT hf hc
        refine r_aload_n C dX5_addCatch_43 rfl ?_
        obtain ⟨o8, eo8, hf⟩ := bS hf
        refine r_getR C dX5_addCatch_44 fl_X5_36 rfl eo8 ?_
        refine r_iload_n C dX5_addCatch_47 rfl ?_
        refine r_iconst (v := 5) C dX5_addCatch_48 (by decide) ?_
        refine r_imul C dX5_addCatch_49 ?_
        refine r_aload_n C dX5_addCatch_50 rfl ?_
        obtain ⟨o9, eo9, hf⟩ := bS hf
        refine r_getR C dX5_addCatch_51 fl_X5_39 rfl eo9 ?_
        refine r_iload_n C dX5_addCatch_54 rfl ?_
        obtain ⟨v10, ev10, hf⟩ := bS hf
        refine r_iald C dX5_addCatch_55 ev10 ?_
        refine r_iadd C dX5_addCatch_56 ?_
        refine r_iload_n C dX5_addCatch_57 rfl ?_
        obtain ⟨h11, eh11, hf⟩ := bS hf
        refine r_iast C dX5_addCatch_58 eh11 ?_
        refine r_aload_n C dX5_addCatch_59 rfl ?_
        obtain ⟨o12, eo12, hf⟩ := bS hf
        refine r_getR C dX5_addCatch_60 fl_X5_39 rfl eo12 ?_
        refine r_iload_n C dX5_addCatch_63 rfl ?_
        refine r_dup2 C dX5_addCatch_64 ?_
        obtain ⟨v13, ev13, hf⟩ := bS hf
        refine r_iald C dX5_addCatch_65 ev13 ?_
        refine r_iconst (v := 1) C dX5_addCatch_66 (by decide) ?_
        refine r_iadd C dX5_addCatch_67 ?_
        obtain ⟨h14, eh14, hf⟩ := bS hf
        refine r_iast C dX5_addCatch_68 eh14 ?_
        refine r_aload_n C dX5_addCatch_69 rfl ?_
        obtain ⟨o15, eo15, hf⟩ := bS hf
        refine r_getR C dX5_addCatch_70 fl_X5_39 rfl eo15 ?_
        refine r_iload_n C dX5_addCatch_73 rfl ?_
        obtain ⟨v16, ev16, hf⟩ := bS hf
        refine r_iald C dX5_addCatch_74 ev16 ?_
        exact r_iretF C dX5_addCatch_75 hret hf (by decide) (by decide)
      · have hf := ifF hf hc
        refine r_bipush (v := -3) C dX5_addCatch_40 (by decide) ?_
        exact r_iretF C dX5_addCatch_42 hret hf (by decide) (by decide)
    · have hf := ifF hf hc
      refine r_iconst (v := -1) C dX5_addCatch_28 (by decide) ?_
      exact r_iretF C dX5_addCatch_29 hret hf (by decide) (by decide)
  · have hf := ifT hf hc
    refine r_iconst (v := -1) C dX5_addCatch_7 (by decide) ?_
    exact r_iretF C dX5_addCatch_8 hret hf (by decide) (by decide)

theorem dgX5_keep_0 : (decode cX5_keep 0 = .ok (.iconst 0, 1)) ∧ (decode cX5_keep 1 = .ok (.istore_n 1, 1)) ∧ (decode cX5_keep 2 = .ok (.iload_n 1, 1)) ∧ (decode cX5_keep 3 = .ok (.aload_n 0, 1)) ∧ (decode cX5_keep 4 = .ok (.getfield 47, 3)) ∧ (decode cX5_keep 7 = .ok (.if_icmp .ge 45, 3)) ∧ (decode cX5_keep 10 = .ok (.aload_n 0, 1)) ∧ (decode cX5_keep 11 = .ok (.getfield 11, 3)) ∧ (decode cX5_keep 14 = .ok (.iload_n 1, 1)) ∧ (decode cX5_keep 15 = .ok (.aaload, 1)) ∧ (decode cX5_keep 16 = .ok (.aload_n 0, 1)) ∧ (decode cX5_keep 17 = .ok (.getfield 11, 3)) ∧ True := dkW [(0, .iconst 0, 1), (1, .istore_n 1, 1), (2, .iload_n 1, 1), (3, .aload_n 0, 1), (4, .getfield 47, 3), (7, .if_icmp .ge 45, 3), (10, .aload_n 0, 1), (11, .getfield 11, 3), (14, .iload_n 1, 1), (15, .aaload, 1), (16, .aload_n 0, 1), (17, .getfield 11, 3)] 0 (by decide +kernel)
theorem dX5_keep_0 : decode cX5_keep 0 = .ok (.iconst 0, 1) := dgX5_keep_0.1
theorem dX5_keep_1 : decode cX5_keep 1 = .ok (.istore_n 1, 1) := dgX5_keep_0.2.1
theorem dX5_keep_2 : decode cX5_keep 2 = .ok (.iload_n 1, 1) := dgX5_keep_0.2.2.1
theorem dX5_keep_3 : decode cX5_keep 3 = .ok (.aload_n 0, 1) := dgX5_keep_0.2.2.2.1
theorem dX5_keep_4 : decode cX5_keep 4 = .ok (.getfield 47, 3) := dgX5_keep_0.2.2.2.2.1
theorem dX5_keep_7 : decode cX5_keep 7 = .ok (.if_icmp .ge 45, 3) := dgX5_keep_0.2.2.2.2.2.1
theorem dX5_keep_10 : decode cX5_keep 10 = .ok (.aload_n 0, 1) := dgX5_keep_0.2.2.2.2.2.2.1
theorem dX5_keep_11 : decode cX5_keep 11 = .ok (.getfield 11, 3) := dgX5_keep_0.2.2.2.2.2.2.2.1
theorem dX5_keep_14 : decode cX5_keep 14 = .ok (.iload_n 1, 1) := dgX5_keep_0.2.2.2.2.2.2.2.2.1
theorem dX5_keep_15 : decode cX5_keep 15 = .ok (.aaload, 1) := dgX5_keep_0.2.2.2.2.2.2.2.2.2.1
theorem dX5_keep_16 : decode cX5_keep 16 = .ok (.aload_n 0, 1) := dgX5_keep_0.2.2.2.2.2.2.2.2.2.2.1
theorem dX5_keep_17 : decode cX5_keep 17 = .ok (.getfield 11, 3) := dgX5_keep_0.2.2.2.2.2.2.2.2.2.2.2.1
theorem dgX5_keep_20 : (decode cX5_keep 20 = .ok (.iload_n 1, 1)) ∧ (decode cX5_keep 21 = .ok (.aaload, 1)) ∧ (decode cX5_keep 22 = .ok (.getfield 87, 3)) ∧ (decode cX5_keep 25 = .ok (.putfield 189, 3)) ∧ (decode cX5_keep 28 = .ok (.aload_n 0, 1)) ∧ (decode cX5_keep 29 = .ok (.getfield 11, 3)) ∧ (decode cX5_keep 32 = .ok (.iload_n 1, 1)) ∧ (decode cX5_keep 33 = .ok (.aaload, 1)) ∧ (decode cX5_keep 34 = .ok (.aload_n 0, 1)) ∧ (decode cX5_keep 35 = .ok (.getfield 11, 3)) ∧ (decode cX5_keep 38 = .ok (.iload_n 1, 1)) ∧ (decode cX5_keep 39 = .ok (.aaload, 1)) ∧ True := dkW [(20, .iload_n 1, 1), (21, .aaload, 1), (22, .getfield 87, 3), (25, .putfield 189, 3), (28, .aload_n 0, 1), (29, .getfield 11, 3), (32, .iload_n 1, 1), (33, .aaload, 1), (34, .aload_n 0, 1), (35, .getfield 11, 3), (38, .iload_n 1, 1), (39, .aaload, 1)] 20 (by decide +kernel)
theorem dX5_keep_20 : decode cX5_keep 20 = .ok (.iload_n 1, 1) := dgX5_keep_20.1
theorem dX5_keep_21 : decode cX5_keep 21 = .ok (.aaload, 1) := dgX5_keep_20.2.1
theorem dX5_keep_22 : decode cX5_keep 22 = .ok (.getfield 87, 3) := dgX5_keep_20.2.2.1
theorem dX5_keep_25 : decode cX5_keep 25 = .ok (.putfield 189, 3) := dgX5_keep_20.2.2.2.1
theorem dX5_keep_28 : decode cX5_keep 28 = .ok (.aload_n 0, 1) := dgX5_keep_20.2.2.2.2.1
theorem dX5_keep_29 : decode cX5_keep 29 = .ok (.getfield 11, 3) := dgX5_keep_20.2.2.2.2.2.1
theorem dX5_keep_32 : decode cX5_keep 32 = .ok (.iload_n 1, 1) := dgX5_keep_20.2.2.2.2.2.2.1
theorem dX5_keep_33 : decode cX5_keep 33 = .ok (.aaload, 1) := dgX5_keep_20.2.2.2.2.2.2.2.1
theorem dX5_keep_34 : decode cX5_keep 34 = .ok (.aload_n 0, 1) := dgX5_keep_20.2.2.2.2.2.2.2.2.1
theorem dX5_keep_35 : decode cX5_keep 35 = .ok (.getfield 11, 3) := dgX5_keep_20.2.2.2.2.2.2.2.2.2.1
theorem dX5_keep_38 : decode cX5_keep 38 = .ok (.iload_n 1, 1) := dgX5_keep_20.2.2.2.2.2.2.2.2.2.2.1
theorem dX5_keep_39 : decode cX5_keep 39 = .ok (.aaload, 1) := dgX5_keep_20.2.2.2.2.2.2.2.2.2.2.2.1
theorem dgX5_keep_40 : (decode cX5_keep 40 = .ok (.getfield 113, 3)) ∧ (decode cX5_keep 43 = .ok (.putfield 192, 3)) ∧ (decode cX5_keep 46 = .ok (.iinc 1 1, 3)) ∧ (decode cX5_keep 49 = .ok (.goto (-47), 3)) ∧ (decode cX5_keep 52 = .ok (.iconst 0, 1)) ∧ (decode cX5_keep 53 = .ok (.istore_n 1, 1)) ∧ (decode cX5_keep 54 = .ok (.iload_n 1, 1)) ∧ (decode cX5_keep 55 = .ok (.aload_n 0, 1)) ∧ (decode cX5_keep 56 = .ok (.getfield 57, 3)) ∧ (decode cX5_keep 59 = .ok (.if_icmp .ge 40, 3)) ∧ (decode cX5_keep 62 = .ok (.aload_n 0, 1)) ∧ (decode cX5_keep 63 = .ok (.getfield 25, 3)) ∧ True := dkW [(40, .getfield 113, 3), (43, .putfield 192, 3), (46, .iinc 1 1, 3), (49, .goto (-47), 3), (52, .iconst 0, 1), (53, .istore_n 1, 1), (54, .iload_n 1, 1), (55, .aload_n 0, 1), (56, .getfield 57, 3), (59, .if_icmp .ge 40, 3), (62, .aload_n 0, 1), (63, .getfield 25, 3)] 40 (by decide +kernel)
theorem dX5_keep_40 : decode cX5_keep 40 = .ok (.getfield 113, 3) := dgX5_keep_40.1
theorem dX5_keep_43 : decode cX5_keep 43 = .ok (.putfield 192, 3) := dgX5_keep_40.2.1
theorem dX5_keep_46 : decode cX5_keep 46 = .ok (.iinc 1 1, 3) := dgX5_keep_40.2.2.1
theorem dX5_keep_49 : decode cX5_keep 49 = .ok (.goto (-47), 3) := dgX5_keep_40.2.2.2.1
theorem dX5_keep_52 : decode cX5_keep 52 = .ok (.iconst 0, 1) := dgX5_keep_40.2.2.2.2.1
theorem dX5_keep_53 : decode cX5_keep 53 = .ok (.istore_n 1, 1) := dgX5_keep_40.2.2.2.2.2.1
theorem dX5_keep_54 : decode cX5_keep 54 = .ok (.iload_n 1, 1) := dgX5_keep_40.2.2.2.2.2.2.1
theorem dX5_keep_55 : decode cX5_keep 55 = .ok (.aload_n 0, 1) := dgX5_keep_40.2.2.2.2.2.2.2.1
theorem dX5_keep_56 : decode cX5_keep 56 = .ok (.getfield 57, 3) := dgX5_keep_40.2.2.2.2.2.2.2.2.1
theorem dX5_keep_59 : decode cX5_keep 59 = .ok (.if_icmp .ge 40, 3) := dgX5_keep_40.2.2.2.2.2.2.2.2.2.1
theorem dX5_keep_62 : decode cX5_keep 62 = .ok (.aload_n 0, 1) := dgX5_keep_40.2.2.2.2.2.2.2.2.2.2.1
theorem dX5_keep_63 : decode cX5_keep 63 = .ok (.getfield 25, 3) := dgX5_keep_40.2.2.2.2.2.2.2.2.2.2.2.1
theorem dgX5_keep_66 : (decode cX5_keep 66 = .ok (.iload_n 1, 1)) ∧ (decode cX5_keep 67 = .ok (.aaload, 1)) ∧ (decode cX5_keep 68 = .ok (.astore_n 2, 1)) ∧ (decode cX5_keep 69 = .ok (.aload_n 2, 1)) ∧ (decode cX5_keep 70 = .ok (.aload_n 2, 1)) ∧ (decode cX5_keep 71 = .ok (.getfield 125, 3)) ∧ (decode cX5_keep 74 = .ok (.putfield 195, 3)) ∧ (decode cX5_keep 77 = .ok (.aload_n 2, 1)) ∧ (decode cX5_keep 78 = .ok (.aload_n 2, 1)) ∧ (decode cX5_keep 79 = .ok (.getfield 143, 3)) ∧ (decode cX5_keep 82 = .ok (.putfield 198, 3)) ∧ (decode cX5_keep 85 = .ok (.aload_n 2, 1)) ∧ True := dkW [(66, .iload_n 1, 1), (67, .aaload, 1), (68, .astore_n 2, 1), (69, .aload_n 2, 1), (70, .aload_n 2, 1), (71, .getfield 125, 3), (74, .putfield 195, 3), (77, .aload_n 2, 1), (78, .aload_n 2, 1), (79, .getfield 143, 3), (82, .putfield 198, 3), (85, .aload_n 2, 1)] 66 (by decide +kernel)
theorem dX5_keep_66 : decode cX5_keep 66 = .ok (.iload_n 1, 1) := dgX5_keep_66.1
theorem dX5_keep_67 : decode cX5_keep 67 = .ok (.aaload, 1) := dgX5_keep_66.2.1
theorem dX5_keep_68 : decode cX5_keep 68 = .ok (.astore_n 2, 1) := dgX5_keep_66.2.2.1
theorem dX5_keep_69 : decode cX5_keep 69 = .ok (.aload_n 2, 1) := dgX5_keep_66.2.2.2.1
theorem dX5_keep_70 : decode cX5_keep 70 = .ok (.aload_n 2, 1) := dgX5_keep_66.2.2.2.2.1
theorem dX5_keep_71 : decode cX5_keep 71 = .ok (.getfield 125, 3) := dgX5_keep_66.2.2.2.2.2.1
theorem dX5_keep_74 : decode cX5_keep 74 = .ok (.putfield 195, 3) := dgX5_keep_66.2.2.2.2.2.2.1
theorem dX5_keep_77 : decode cX5_keep 77 = .ok (.aload_n 2, 1) := dgX5_keep_66.2.2.2.2.2.2.2.1
theorem dX5_keep_78 : decode cX5_keep 78 = .ok (.aload_n 2, 1) := dgX5_keep_66.2.2.2.2.2.2.2.2.1
theorem dX5_keep_79 : decode cX5_keep 79 = .ok (.getfield 143, 3) := dgX5_keep_66.2.2.2.2.2.2.2.2.2.1
theorem dX5_keep_82 : decode cX5_keep 82 = .ok (.putfield 198, 3) := dgX5_keep_66.2.2.2.2.2.2.2.2.2.2.1
theorem dX5_keep_85 : decode cX5_keep 85 = .ok (.aload_n 2, 1) := dgX5_keep_66.2.2.2.2.2.2.2.2.2.2.2.1
theorem dgX5_keep_86 : (decode cX5_keep 86 = .ok (.aload_n 2, 1)) ∧ (decode cX5_keep 87 = .ok (.getfield 130, 3)) ∧ (decode cX5_keep 90 = .ok (.putfield 201, 3)) ∧ (decode cX5_keep 93 = .ok (.iinc 1 1, 3)) ∧ (decode cX5_keep 96 = .ok (.goto (-42), 3)) ∧ (decode cX5_keep 99 = .ok (.aload_n 0, 1)) ∧ (decode cX5_keep 100 = .ok (.getfield 29, 3)) ∧ (decode cX5_keep 103 = .ok (.iconst 0, 1)) ∧ (decode cX5_keep 104 = .ok (.aload_n 0, 1)) ∧ (decode cX5_keep 105 = .ok (.getfield 33, 3)) ∧ (decode cX5_keep 108 = .ok (.iconst 0, 1)) ∧ (decode cX5_keep 109 = .ok (.bipush 20, 2)) ∧ True := dkW [(86, .aload_n 2, 1), (87, .getfield 130, 3), (90, .putfield 201, 3), (93, .iinc 1 1, 3), (96, .goto (-42), 3), (99, .aload_n 0, 1), (100, .getfield 29, 3), (103, .iconst 0, 1), (104, .aload_n 0, 1), (105, .getfield 33, 3), (108, .iconst 0, 1), (109, .bipush 20, 2)] 86 (by decide +kernel)
theorem dX5_keep_86 : decode cX5_keep 86 = .ok (.aload_n 2, 1) := dgX5_keep_86.1
theorem dX5_keep_87 : decode cX5_keep 87 = .ok (.getfield 130, 3) := dgX5_keep_86.2.1
theorem dX5_keep_90 : decode cX5_keep 90 = .ok (.putfield 201, 3) := dgX5_keep_86.2.2.1
theorem dX5_keep_93 : decode cX5_keep 93 = .ok (.iinc 1 1, 3) := dgX5_keep_86.2.2.2.1
theorem dX5_keep_96 : decode cX5_keep 96 = .ok (.goto (-42), 3) := dgX5_keep_86.2.2.2.2.1
theorem dX5_keep_99 : decode cX5_keep 99 = .ok (.aload_n 0, 1) := dgX5_keep_86.2.2.2.2.2.1
theorem dX5_keep_100 : decode cX5_keep 100 = .ok (.getfield 29, 3) := dgX5_keep_86.2.2.2.2.2.2.1
theorem dX5_keep_103 : decode cX5_keep 103 = .ok (.iconst 0, 1) := dgX5_keep_86.2.2.2.2.2.2.2.1
theorem dX5_keep_104 : decode cX5_keep 104 = .ok (.aload_n 0, 1) := dgX5_keep_86.2.2.2.2.2.2.2.2.1
theorem dX5_keep_105 : decode cX5_keep 105 = .ok (.getfield 33, 3) := dgX5_keep_86.2.2.2.2.2.2.2.2.2.1
theorem dX5_keep_108 : decode cX5_keep 108 = .ok (.iconst 0, 1) := dgX5_keep_86.2.2.2.2.2.2.2.2.2.2.1
theorem dX5_keep_109 : decode cX5_keep 109 = .ok (.bipush 20, 2) := dgX5_keep_86.2.2.2.2.2.2.2.2.2.2.2.1
theorem dgX5_keep_111 : (decode cX5_keep 111 = .ok (.invokestatic 204, 3)) ∧ (decode cX5_keep 114 = .ok (.aload_n 0, 1)) ∧ (decode cX5_keep 115 = .ok (.aload_n 0, 1)) ∧ (decode cX5_keep 116 = .ok (.getfield 163, 3)) ∧ (decode cX5_keep 119 = .ok (.putfield 210, 3)) ∧ (decode cX5_keep 122 = .ok (.aload_n 0, 1)) ∧ (decode cX5_keep 123 = .ok (.aload_n 0, 1)) ∧ (decode cX5_keep 124 = .ok (.getfield 166, 3)) ∧ (decode cX5_keep 127 = .ok (.putfield 213, 3)) ∧ (decode cX5_keep 130 = .ok (.return_, 1)) ∧ True := dkW [(111, .invokestatic 204, 3), (114, .aload_n 0, 1), (115, .aload_n 0, 1), (116, .getfield 163, 3), (119, .putfield 210, 3), (122, .aload_n 0, 1), (123, .aload_n 0, 1), (124, .getfield 166, 3), (127, .putfield 213, 3), (130, .return_, 1)] 111 (by decide +kernel)
theorem dX5_keep_111 : decode cX5_keep 111 = .ok (.invokestatic 204, 3) := dgX5_keep_111.1
theorem dX5_keep_114 : decode cX5_keep 114 = .ok (.aload_n 0, 1) := dgX5_keep_111.2.1
theorem dX5_keep_115 : decode cX5_keep 115 = .ok (.aload_n 0, 1) := dgX5_keep_111.2.2.1
theorem dX5_keep_116 : decode cX5_keep 116 = .ok (.getfield 163, 3) := dgX5_keep_111.2.2.2.1
theorem dX5_keep_119 : decode cX5_keep 119 = .ok (.putfield 210, 3) := dgX5_keep_111.2.2.2.2.1
theorem dX5_keep_122 : decode cX5_keep 122 = .ok (.aload_n 0, 1) := dgX5_keep_111.2.2.2.2.2.1
theorem dX5_keep_123 : decode cX5_keep 123 = .ok (.aload_n 0, 1) := dgX5_keep_111.2.2.2.2.2.2.1
theorem dX5_keep_124 : decode cX5_keep 124 = .ok (.getfield 166, 3) := dgX5_keep_111.2.2.2.2.2.2.2.1
theorem dX5_keep_127 : decode cX5_keep 127 = .ok (.putfield 213, 3) := dgX5_keep_111.2.2.2.2.2.2.2.2.1
theorem dX5_keep_130 : decode cX5_keep 130 = .ok (.return_, 1) := dgX5_keep_111.2.2.2.2.2.2.2.2.2.1
abbrev rmX5_keep : Room := { frames := 1, cells := 0, slots := 0, locals := 18 }
noncomputable def fX5_keep_b54_body (N : Nat)  (g54 : Hs → Int32 → Option (Hs)) (t : Nat) (h : Hs) (x1 : Int32) : Option (Hs) :=
  (oI 5 9 h (some t)).bind fun v1 =>
  if v1 ≤ x1 then (
  (oR 5 3 h (some t)).bind fun o2 =>
  (oR 5 4 h (some t)).bind fun o3 =>
  (cpA h o2 0 o3 0 20).bind fun h4 =>
  (oI 5 11 h4 (some t)).bind fun v5 =>
  (qI 5 13 h4 (some t) v5).bind fun h6 =>
  (oI 5 12 h6 (some t)).bind fun v7 =>
  (qI 5 14 h6 (some t) v7).bind fun h8 =>
  some h8)
  else (oR 5 2 h (some t)).bind fun o9 =>
  (lQ 25 h o9 x1).bind fun o10 =>
  (oR 4 5 h o10).bind fun o11 =>
  (qR 4 9 h o10 o11).bind fun h12 =>
  (oI 4 6 h12 o10).bind fun v13 =>
  (qI 4 10 h12 o10 v13).bind fun h14 =>
  (oI 4 7 h14 o10).bind fun v15 =>
  (qI 4 11 h14 o10 v15).bind fun h16 =>
  (some (x1 + 1)).bind fun y17 =>
  g54 h16 y17
noncomputable def fX5_keep_b54 (N : Nat)  (t : Nat) (n : Nat) : Hs → Int32 → Option (Hs) := lp (fun _ _ => none) (fun g h x1 => fX5_keep_b54_body N  g t h x1) n
set_option maxHeartbeats 4000000 in
set_option maxRecDepth 20000 in
theorem wX5_keep_b54_body {p : Program} {l : Launch} {e : Env} {s : State} {m : MethodId} {args : Array Value} {below : List Frame} {meth : Method} {c : Code} {G : Gl} {N : Nat} {h : Hs} {r : Hs}  {g54 : Hs → Int32 → Option (Hs)} {t : Nat} {x1 : Int32} (C : Cx p s m args meth c cX5_keep RX5 3 G) (hret : meth.sig.returnType = none)  (hg54 : ∀ (h : Hs) (x1 : Int32), g54 h x1 = some r → V p l e rmX5_keep s m args below meth c G 3 (MQ below (QcG G (none) r) args s rmX5_keep.cells rmX5_keep.slots (AG G)) h 0 0 54 [some (.inr (some t)), some (.inl x1), none] []) (hf : fX5_keep_b54_body N  g54 t h x1 = some r) : V p l e rmX5_keep s m args below meth c G 3 (MQ below (QcG G (none) r) args s rmX5_keep.cells rmX5_keep.slots (AG G)) h 0 0 54 [some (.inr (some t)), some (.inl x1), none] [] := by
  unfold fX5_keep_b54_body at hf
  refine r_iload_n C dX5_keep_54 rfl ?_
  refine r_aload_n C dX5_keep_55 rfl ?_
  obtain ⟨v1, ev1, hf⟩ := bS hf
  refine r_getI C dX5_keep_56 fl_X5_57 rfl ev1 ?_
  refine r_icmp_ge (tgt := 99) C dX5_keep_59 (by decide) (fun hc => ?_) (fun hc => ?_)
  · have hf := ifT hf hc
    refine r_aload_n C dX5_keep_99 rfl ?_
    obtain ⟨o2, eo2, hf⟩ := bS hf
    refine r_getR C dX5_keep_100 fl_X5_29 rfl eo2 ?_
    refine r_iconst (v := 0) C dX5_keep_103 (by decide) ?_
    refine r_aload_n C dX5_keep_104 rfl ?_
    obtain ⟨o3, eo3, hf⟩ := bS hf
    refine r_getR C dX5_keep_105 fl_X5_33 rfl eo3 ?_
    refine r_iconst (v := 0) C dX5_keep_108 (by decide) ?_
    refine r_bipush (v := 20) C dX5_keep_109 (by decide) ?_
    obtain ⟨h4, eh4, hf⟩ := bS hf
    refine r_copy C dX5_keep_111 ⟨wd_825, wd_827, wd_826, wd_15⟩ (by decide) (Nat.le_of_ble_eq_true rfl) eh4 ?_
    refine r_aload_n C dX5_keep_114 rfl ?_
    refine r_aload_n C dX5_keep_115 rfl ?_
    obtain ⟨v5, ev5, hf⟩ := bS hf
    refine r_getI C dX5_keep_116 fl_X5_163 rfl ev5 ?_
    obtain ⟨h6, eh6, hf⟩ := bS hf
    refine r_putI C dX5_keep_119 fl_X5_210 (Or.inl fn_5_13) rfl eh6 ?_
    refine r_aload_n C dX5_keep_122 rfl ?_
    refine r_aload_n C dX5_keep_123 rfl ?_
    obtain ⟨v7, ev7, hf⟩ := bS hf
    refine r_getI C dX5_keep_124 fl_X5_166 rfl ev7 ?_
    obtain ⟨h8, eh8, hf⟩ := bS hf
    refine r_putI C dX5_keep_127 fl_X5_213 (Or.inl fn_5_14) rfl eh8 ?_
    exact r_vretF C dX5_keep_130 hret hf (by decide) (by decide)
  · have hf := ifF hf hc
    refine r_aload_n C dX5_keep_62 rfl ?_
    obtain ⟨o9, eo9, hf⟩ := bS hf
    refine r_getR C dX5_keep_63 fl_X5_25 rfl eo9 ?_
    refine r_iload_n C dX5_keep_66 rfl ?_
    obtain ⟨o10, eo10, hf⟩ := bS hf
    refine r_qald (t := 5) C dX5_keep_67 (by decide) (by decide) rfl eo10 ?_
    refine r_astore_n C dX5_keep_68 (by decide) ?_
    refine r_aload_n C dX5_keep_69 rfl ?_
    refine r_aload_n C dX5_keep_70 rfl ?_
    obtain ⟨o11, eo11, hf⟩ := bS hf
    refine r_getR C dX5_keep_71 fl_X5_125 rfl eo11 ?_
    obtain ⟨h12, eh12, hf⟩ := bS hf
    refine r_putR C dX5_keep_74 fl_X5_195 (Or.inl fn_4_9) rfl eh12 ?_
    refine r_aload_n C dX5_keep_77 rfl ?_
    refine r_aload_n C dX5_keep_78 rfl ?_
    obtain ⟨v13, ev13, hf⟩ := bS hf
    refine r_getI C dX5_keep_79 fl_X5_143 rfl ev13 ?_
    obtain ⟨h14, eh14, hf⟩ := bS hf
    refine r_putI C dX5_keep_82 fl_X5_198 (Or.inl fn_4_10) rfl eh14 ?_
    refine r_aload_n C dX5_keep_85 rfl ?_
    refine r_aload_n C dX5_keep_86 rfl ?_
    obtain ⟨v15, ev15, hf⟩ := bS hf
    refine r_getI C dX5_keep_87 fl_X5_130 rfl ev15 ?_
    obtain ⟨h16, eh16, hf⟩ := bS hf
    refine r_putI C dX5_keep_90 fl_X5_201 (Or.inl fn_4_11) rfl eh16 ?_
    obtain ⟨y17, ey17, hf⟩ := bS hf
    refine r_iincE (v := 1) C dX5_keep_93 rfl (by decide) (by decide) ey17 ?_
    refine r_goto (tgt := 54) C dX5_keep_96 (by decide) ?_
    exact V.sub (hg54 _ _ hf) (LW_s rfl (LW_s rfl (LW_n (LW_e))))
theorem wX5_keep_b54 {p : Program} {l : Launch} {e : Env} {s : State} {m : MethodId} {args : Array Value} {below : List Frame} {meth : Method} {c : Code} {G : Gl} {N : Nat} {r : Hs}  {t : Nat} (C : Cx p s m args meth c cX5_keep RX5 3 G) (hret : meth.sig.returnType = none)  : ∀ (n : Nat) (h : Hs) (x1 : Int32), fX5_keep_b54 N  t n h x1 = some r → V p l e rmX5_keep s m args below meth c G 3 (MQ below (QcG G (none) r) args s rmX5_keep.cells rmX5_keep.slots (AG G)) h 0 0 54 [some (.inr (some t)), some (.inl x1), none] [] := by
  intro n
  induction n with
  | zero => intro h x1 hf; exact absurd (show (none : Option (Hs)) = some r from hf) (fun q => by cases q)
  | succ n ih => intro h x1 hf; exact wX5_keep_b54_body C hret  ih (show fX5_keep_b54_body N  (fX5_keep_b54 N  t n) t h x1 = some r from hf)
noncomputable def fX5_keep_b2_body (N : Nat)  (g2 : Hs → Int32 → Option (Hs)) (t : Nat) (h : Hs) (x1 : Int32) : Option (Hs) :=
  (oI 5 7 h (some t)).bind fun v1 =>
  if v1 ≤ x1 then (
  fX5_keep_b54 N t N h 0)
  else (oR 5 0 h (some t)).bind fun o2 =>
  (lQ 23 h o2 x1).bind fun o3 =>
  (oR 5 0 h (some t)).bind fun o4 =>
  (lQ 23 h o4 x1).bind fun o5 =>
  (oI 9 7 h o5).bind fun v6 =>
  (qI 9 10 h o3 v6).bind fun h7 =>
  (oR 5 0 h7 (some t)).bind fun o8 =>
  (lQ 23 h7 o8 x1).bind fun o9 =>
  (oR 5 0 h7 (some t)).bind fun o10 =>
  (lQ 23 h7 o10 x1).bind fun o11 =>
  (oR 9 9 h7 o11).bind fun o12 =>
  (qR 9 11 h7 o9 o12).bind fun h13 =>
  (some (x1 + 1)).bind fun y14 =>
  g2 h13 y14
noncomputable def fX5_keep_b2 (N : Nat)  (t : Nat) (n : Nat) : Hs → Int32 → Option (Hs) := lp (fun _ _ => none) (fun g h x1 => fX5_keep_b2_body N  g t h x1) n
set_option maxHeartbeats 4000000 in
set_option maxRecDepth 20000 in
theorem wX5_keep_b2_body {p : Program} {l : Launch} {e : Env} {s : State} {m : MethodId} {args : Array Value} {below : List Frame} {meth : Method} {c : Code} {G : Gl} {N : Nat} {h : Hs} {r : Hs}  {g2 : Hs → Int32 → Option (Hs)} {t : Nat} {x1 : Int32} (C : Cx p s m args meth c cX5_keep RX5 3 G) (hret : meth.sig.returnType = none)  (hg2 : ∀ (h : Hs) (x1 : Int32), g2 h x1 = some r → V p l e rmX5_keep s m args below meth c G 3 (MQ below (QcG G (none) r) args s rmX5_keep.cells rmX5_keep.slots (AG G)) h 0 0 2 [some (.inr (some t)), some (.inl x1), none] []) (hf : fX5_keep_b2_body N  g2 t h x1 = some r) : V p l e rmX5_keep s m args below meth c G 3 (MQ below (QcG G (none) r) args s rmX5_keep.cells rmX5_keep.slots (AG G)) h 0 0 2 [some (.inr (some t)), some (.inl x1), none] [] := by
  unfold fX5_keep_b2_body at hf
  refine r_iload_n C dX5_keep_2 rfl ?_
  refine r_aload_n C dX5_keep_3 rfl ?_
  obtain ⟨v1, ev1, hf⟩ := bS hf
  refine r_getI C dX5_keep_4 fl_X5_47 rfl ev1 ?_
  refine r_icmp_ge (tgt := 52) C dX5_keep_7 (by decide) (fun hc => ?_) (fun hc => ?_)
  · have hf := ifT hf hc
    refine r_iconst (v := 0) C dX5_keep_52 (by decide) ?_
    refine r_istore_n C dX5_keep_53 (by decide) ?_
    exact V.sub (wX5_keep_b54 C hret N _ _ hf) (LW_s rfl (LW_s rfl (LW_n (LW_e))))
  · have hf := ifF hf hc
    refine r_aload_n C dX5_keep_10 rfl ?_
    obtain ⟨o2, eo2, hf⟩ := bS hf
    refine r_getR C dX5_keep_11 fl_X5_11 rfl eo2 ?_
    refine r_iload_n C dX5_keep_14 rfl ?_
    obtain ⟨o3, eo3, hf⟩ := bS hf
    refine r_qald (t := 3) C dX5_keep_15 (by decide) (by decide) rfl eo3 ?_
    refine r_aload_n C dX5_keep_16 rfl ?_
    obtain ⟨o4, eo4, hf⟩ := bS hf
    refine r_getR C dX5_keep_17 fl_X5_11 rfl eo4 ?_
    refine r_iload_n C dX5_keep_20 rfl ?_
    obtain ⟨o5, eo5, hf⟩ := bS hf
    refine r_qald (t := 3) C dX5_keep_21 (by decide) (by decide) rfl eo5 ?_
    obtain ⟨v6, ev6, hf⟩ := bS hf
    refine r_getI C dX5_keep_22 fl_X5_87 rfl ev6 ?_
    obtain ⟨h7, eh7, hf⟩ := bS hf
    refine r_putI C dX5_keep_25 fl_X5_189 (Or.inl fn_9_10) rfl eh7 ?_
    refine r_aload_n C dX5_keep_28 rfl ?_
    obtain ⟨o8, eo8, hf⟩ := bS hf
    refine r_getR C dX5_keep_29 fl_X5_11 rfl eo8 ?_
    refine r_iload_n C dX5_keep_32 rfl ?_
    obtain ⟨o9, eo9, hf⟩ := bS hf
    refine r_qald (t := 3) C dX5_keep_33 (by decide) (by decide) rfl eo9 ?_
    refine r_aload_n C dX5_keep_34 rfl ?_
    obtain ⟨o10, eo10, hf⟩ := bS hf
    refine r_getR C dX5_keep_35 fl_X5_11 rfl eo10 ?_
    refine r_iload_n C dX5_keep_38 rfl ?_
    obtain ⟨o11, eo11, hf⟩ := bS hf
    refine r_qald (t := 3) C dX5_keep_39 (by decide) (by decide) rfl eo11 ?_
    obtain ⟨o12, eo12, hf⟩ := bS hf
    refine r_getR C dX5_keep_40 fl_X5_113 rfl eo12 ?_
    obtain ⟨h13, eh13, hf⟩ := bS hf
    refine r_putR C dX5_keep_43 fl_X5_192 (Or.inl fn_9_11) rfl eh13 ?_
    obtain ⟨y14, ey14, hf⟩ := bS hf
    refine r_iincE (v := 1) C dX5_keep_46 rfl (by decide) (by decide) ey14 ?_
    refine r_goto (tgt := 2) C dX5_keep_49 (by decide) ?_
    exact V.sub (hg2 _ _ hf) (LW_s rfl (LW_s rfl (LW_n (LW_e))))
theorem wX5_keep_b2 {p : Program} {l : Launch} {e : Env} {s : State} {m : MethodId} {args : Array Value} {below : List Frame} {meth : Method} {c : Code} {G : Gl} {N : Nat} {r : Hs}  {t : Nat} (C : Cx p s m args meth c cX5_keep RX5 3 G) (hret : meth.sig.returnType = none)  : ∀ (n : Nat) (h : Hs) (x1 : Int32), fX5_keep_b2 N  t n h x1 = some r → V p l e rmX5_keep s m args below meth c G 3 (MQ below (QcG G (none) r) args s rmX5_keep.cells rmX5_keep.slots (AG G)) h 0 0 2 [some (.inr (some t)), some (.inl x1), none] [] := by
  intro n
  induction n with
  | zero => intro h x1 hf; exact absurd (show (none : Option (Hs)) = some r from hf) (fun q => by cases q)
  | succ n ih => intro h x1 hf; exact wX5_keep_b2_body C hret  ih (show fX5_keep_b2_body N  (fX5_keep_b2 N  t n) t h x1 = some r from hf)
noncomputable def fX5_keep (N : Nat) (h : Hs) (t : Nat)  : Option (Hs) :=
  fX5_keep_b2 N t N h 0
set_option maxHeartbeats 4000000 in
set_option maxRecDepth 20000 in
theorem kX5_keep (l : Launch) (G : Gl) {N : Nat} {h : Hs} {t : Nat}  {r : Hs} (hf : fX5_keep N h t  = some r) : CT l G yX5_keep cX5_keep 3 none rmX5_keep [.inr (some t)] h (none) r := by
  refine mk_CT (by decide) (Nat.le_of_ble_eq_true rfl) ?_
  intro p e s m args below meth c C hret hin
  unfold fX5_keep at hf
  refine r_iconst (v := 0) C dX5_keep_0 (by decide) ?_
  refine r_istore_n C dX5_keep_1 (by decide) ?_
  exact V.sub (wX5_keep_b2 C hret N _ _ hf) (LW_s rfl (LW_s rfl (LW_n (LW_e))))

theorem dgX5_restore_0 : (decode cX5_restore 0 = .ok (.iconst 0, 1)) ∧ (decode cX5_restore 1 = .ok (.istore_n 1, 1)) ∧ (decode cX5_restore 2 = .ok (.iload_n 1, 1)) ∧ (decode cX5_restore 3 = .ok (.aload_n 0, 1)) ∧ (decode cX5_restore 4 = .ok (.getfield 47, 3)) ∧ (decode cX5_restore 7 = .ok (.if_icmp .ge 45, 3)) ∧ (decode cX5_restore 10 = .ok (.aload_n 0, 1)) ∧ (decode cX5_restore 11 = .ok (.getfield 11, 3)) ∧ (decode cX5_restore 14 = .ok (.iload_n 1, 1)) ∧ (decode cX5_restore 15 = .ok (.aaload, 1)) ∧ (decode cX5_restore 16 = .ok (.aload_n 0, 1)) ∧ (decode cX5_restore 17 = .ok (.getfield 11, 3)) ∧ True := dkW [(0, .iconst 0, 1), (1, .istore_n 1, 1), (2, .iload_n 1, 1), (3, .aload_n 0, 1), (4, .getfield 47, 3), (7, .if_icmp .ge 45, 3), (10, .aload_n 0, 1), (11, .getfield 11, 3), (14, .iload_n 1, 1), (15, .aaload, 1), (16, .aload_n 0, 1), (17, .getfield 11, 3)] 0 (by decide +kernel)
theorem dX5_restore_0 : decode cX5_restore 0 = .ok (.iconst 0, 1) := dgX5_restore_0.1
theorem dX5_restore_1 : decode cX5_restore 1 = .ok (.istore_n 1, 1) := dgX5_restore_0.2.1
theorem dX5_restore_2 : decode cX5_restore 2 = .ok (.iload_n 1, 1) := dgX5_restore_0.2.2.1
theorem dX5_restore_3 : decode cX5_restore 3 = .ok (.aload_n 0, 1) := dgX5_restore_0.2.2.2.1
theorem dX5_restore_4 : decode cX5_restore 4 = .ok (.getfield 47, 3) := dgX5_restore_0.2.2.2.2.1
theorem dX5_restore_7 : decode cX5_restore 7 = .ok (.if_icmp .ge 45, 3) := dgX5_restore_0.2.2.2.2.2.1
theorem dX5_restore_10 : decode cX5_restore 10 = .ok (.aload_n 0, 1) := dgX5_restore_0.2.2.2.2.2.2.1
theorem dX5_restore_11 : decode cX5_restore 11 = .ok (.getfield 11, 3) := dgX5_restore_0.2.2.2.2.2.2.2.1
theorem dX5_restore_14 : decode cX5_restore 14 = .ok (.iload_n 1, 1) := dgX5_restore_0.2.2.2.2.2.2.2.2.1
theorem dX5_restore_15 : decode cX5_restore 15 = .ok (.aaload, 1) := dgX5_restore_0.2.2.2.2.2.2.2.2.2.1
theorem dX5_restore_16 : decode cX5_restore 16 = .ok (.aload_n 0, 1) := dgX5_restore_0.2.2.2.2.2.2.2.2.2.2.1
theorem dX5_restore_17 : decode cX5_restore 17 = .ok (.getfield 11, 3) := dgX5_restore_0.2.2.2.2.2.2.2.2.2.2.2.1
theorem dgX5_restore_20 : (decode cX5_restore 20 = .ok (.iload_n 1, 1)) ∧ (decode cX5_restore 21 = .ok (.aaload, 1)) ∧ (decode cX5_restore 22 = .ok (.getfield 189, 3)) ∧ (decode cX5_restore 25 = .ok (.putfield 87, 3)) ∧ (decode cX5_restore 28 = .ok (.aload_n 0, 1)) ∧ (decode cX5_restore 29 = .ok (.getfield 11, 3)) ∧ (decode cX5_restore 32 = .ok (.iload_n 1, 1)) ∧ (decode cX5_restore 33 = .ok (.aaload, 1)) ∧ (decode cX5_restore 34 = .ok (.aload_n 0, 1)) ∧ (decode cX5_restore 35 = .ok (.getfield 11, 3)) ∧ (decode cX5_restore 38 = .ok (.iload_n 1, 1)) ∧ (decode cX5_restore 39 = .ok (.aaload, 1)) ∧ True := dkW [(20, .iload_n 1, 1), (21, .aaload, 1), (22, .getfield 189, 3), (25, .putfield 87, 3), (28, .aload_n 0, 1), (29, .getfield 11, 3), (32, .iload_n 1, 1), (33, .aaload, 1), (34, .aload_n 0, 1), (35, .getfield 11, 3), (38, .iload_n 1, 1), (39, .aaload, 1)] 20 (by decide +kernel)
theorem dX5_restore_20 : decode cX5_restore 20 = .ok (.iload_n 1, 1) := dgX5_restore_20.1
theorem dX5_restore_21 : decode cX5_restore 21 = .ok (.aaload, 1) := dgX5_restore_20.2.1
theorem dX5_restore_22 : decode cX5_restore 22 = .ok (.getfield 189, 3) := dgX5_restore_20.2.2.1
theorem dX5_restore_25 : decode cX5_restore 25 = .ok (.putfield 87, 3) := dgX5_restore_20.2.2.2.1
theorem dX5_restore_28 : decode cX5_restore 28 = .ok (.aload_n 0, 1) := dgX5_restore_20.2.2.2.2.1
theorem dX5_restore_29 : decode cX5_restore 29 = .ok (.getfield 11, 3) := dgX5_restore_20.2.2.2.2.2.1
theorem dX5_restore_32 : decode cX5_restore 32 = .ok (.iload_n 1, 1) := dgX5_restore_20.2.2.2.2.2.2.1
theorem dX5_restore_33 : decode cX5_restore 33 = .ok (.aaload, 1) := dgX5_restore_20.2.2.2.2.2.2.2.1
theorem dX5_restore_34 : decode cX5_restore 34 = .ok (.aload_n 0, 1) := dgX5_restore_20.2.2.2.2.2.2.2.2.1
theorem dX5_restore_35 : decode cX5_restore 35 = .ok (.getfield 11, 3) := dgX5_restore_20.2.2.2.2.2.2.2.2.2.1
theorem dX5_restore_38 : decode cX5_restore 38 = .ok (.iload_n 1, 1) := dgX5_restore_20.2.2.2.2.2.2.2.2.2.2.1
theorem dX5_restore_39 : decode cX5_restore 39 = .ok (.aaload, 1) := dgX5_restore_20.2.2.2.2.2.2.2.2.2.2.2.1
theorem dgX5_restore_40 : (decode cX5_restore 40 = .ok (.getfield 192, 3)) ∧ (decode cX5_restore 43 = .ok (.putfield 113, 3)) ∧ (decode cX5_restore 46 = .ok (.iinc 1 1, 3)) ∧ (decode cX5_restore 49 = .ok (.goto (-47), 3)) ∧ (decode cX5_restore 52 = .ok (.iconst 0, 1)) ∧ (decode cX5_restore 53 = .ok (.istore_n 1, 1)) ∧ (decode cX5_restore 54 = .ok (.iload_n 1, 1)) ∧ (decode cX5_restore 55 = .ok (.aload_n 0, 1)) ∧ (decode cX5_restore 56 = .ok (.getfield 57, 3)) ∧ (decode cX5_restore 59 = .ok (.if_icmp .ge 40, 3)) ∧ (decode cX5_restore 62 = .ok (.aload_n 0, 1)) ∧ (decode cX5_restore 63 = .ok (.getfield 25, 3)) ∧ True := dkW [(40, .getfield 192, 3), (43, .putfield 113, 3), (46, .iinc 1 1, 3), (49, .goto (-47), 3), (52, .iconst 0, 1), (53, .istore_n 1, 1), (54, .iload_n 1, 1), (55, .aload_n 0, 1), (56, .getfield 57, 3), (59, .if_icmp .ge 40, 3), (62, .aload_n 0, 1), (63, .getfield 25, 3)] 40 (by decide +kernel)
theorem dX5_restore_40 : decode cX5_restore 40 = .ok (.getfield 192, 3) := dgX5_restore_40.1
theorem dX5_restore_43 : decode cX5_restore 43 = .ok (.putfield 113, 3) := dgX5_restore_40.2.1
theorem dX5_restore_46 : decode cX5_restore 46 = .ok (.iinc 1 1, 3) := dgX5_restore_40.2.2.1
theorem dX5_restore_49 : decode cX5_restore 49 = .ok (.goto (-47), 3) := dgX5_restore_40.2.2.2.1
theorem dX5_restore_52 : decode cX5_restore 52 = .ok (.iconst 0, 1) := dgX5_restore_40.2.2.2.2.1
theorem dX5_restore_53 : decode cX5_restore 53 = .ok (.istore_n 1, 1) := dgX5_restore_40.2.2.2.2.2.1
theorem dX5_restore_54 : decode cX5_restore 54 = .ok (.iload_n 1, 1) := dgX5_restore_40.2.2.2.2.2.2.1
theorem dX5_restore_55 : decode cX5_restore 55 = .ok (.aload_n 0, 1) := dgX5_restore_40.2.2.2.2.2.2.2.1
theorem dX5_restore_56 : decode cX5_restore 56 = .ok (.getfield 57, 3) := dgX5_restore_40.2.2.2.2.2.2.2.2.1
theorem dX5_restore_59 : decode cX5_restore 59 = .ok (.if_icmp .ge 40, 3) := dgX5_restore_40.2.2.2.2.2.2.2.2.2.1
theorem dX5_restore_62 : decode cX5_restore 62 = .ok (.aload_n 0, 1) := dgX5_restore_40.2.2.2.2.2.2.2.2.2.2.1
theorem dX5_restore_63 : decode cX5_restore 63 = .ok (.getfield 25, 3) := dgX5_restore_40.2.2.2.2.2.2.2.2.2.2.2.1
theorem dgX5_restore_66 : (decode cX5_restore 66 = .ok (.iload_n 1, 1)) ∧ (decode cX5_restore 67 = .ok (.aaload, 1)) ∧ (decode cX5_restore 68 = .ok (.astore_n 2, 1)) ∧ (decode cX5_restore 69 = .ok (.aload_n 2, 1)) ∧ (decode cX5_restore 70 = .ok (.aload_n 2, 1)) ∧ (decode cX5_restore 71 = .ok (.getfield 195, 3)) ∧ (decode cX5_restore 74 = .ok (.putfield 125, 3)) ∧ (decode cX5_restore 77 = .ok (.aload_n 2, 1)) ∧ (decode cX5_restore 78 = .ok (.aload_n 2, 1)) ∧ (decode cX5_restore 79 = .ok (.getfield 198, 3)) ∧ (decode cX5_restore 82 = .ok (.putfield 143, 3)) ∧ (decode cX5_restore 85 = .ok (.aload_n 2, 1)) ∧ True := dkW [(66, .iload_n 1, 1), (67, .aaload, 1), (68, .astore_n 2, 1), (69, .aload_n 2, 1), (70, .aload_n 2, 1), (71, .getfield 195, 3), (74, .putfield 125, 3), (77, .aload_n 2, 1), (78, .aload_n 2, 1), (79, .getfield 198, 3), (82, .putfield 143, 3), (85, .aload_n 2, 1)] 66 (by decide +kernel)
theorem dX5_restore_66 : decode cX5_restore 66 = .ok (.iload_n 1, 1) := dgX5_restore_66.1
theorem dX5_restore_67 : decode cX5_restore 67 = .ok (.aaload, 1) := dgX5_restore_66.2.1
theorem dX5_restore_68 : decode cX5_restore 68 = .ok (.astore_n 2, 1) := dgX5_restore_66.2.2.1
theorem dX5_restore_69 : decode cX5_restore 69 = .ok (.aload_n 2, 1) := dgX5_restore_66.2.2.2.1
theorem dX5_restore_70 : decode cX5_restore 70 = .ok (.aload_n 2, 1) := dgX5_restore_66.2.2.2.2.1
theorem dX5_restore_71 : decode cX5_restore 71 = .ok (.getfield 195, 3) := dgX5_restore_66.2.2.2.2.2.1
theorem dX5_restore_74 : decode cX5_restore 74 = .ok (.putfield 125, 3) := dgX5_restore_66.2.2.2.2.2.2.1
theorem dX5_restore_77 : decode cX5_restore 77 = .ok (.aload_n 2, 1) := dgX5_restore_66.2.2.2.2.2.2.2.1
theorem dX5_restore_78 : decode cX5_restore 78 = .ok (.aload_n 2, 1) := dgX5_restore_66.2.2.2.2.2.2.2.2.1
theorem dX5_restore_79 : decode cX5_restore 79 = .ok (.getfield 198, 3) := dgX5_restore_66.2.2.2.2.2.2.2.2.2.1
theorem dX5_restore_82 : decode cX5_restore 82 = .ok (.putfield 143, 3) := dgX5_restore_66.2.2.2.2.2.2.2.2.2.2.1
theorem dX5_restore_85 : decode cX5_restore 85 = .ok (.aload_n 2, 1) := dgX5_restore_66.2.2.2.2.2.2.2.2.2.2.2.1
theorem dgX5_restore_86 : (decode cX5_restore 86 = .ok (.aload_n 2, 1)) ∧ (decode cX5_restore 87 = .ok (.getfield 201, 3)) ∧ (decode cX5_restore 90 = .ok (.putfield 130, 3)) ∧ (decode cX5_restore 93 = .ok (.iinc 1 1, 3)) ∧ (decode cX5_restore 96 = .ok (.goto (-42), 3)) ∧ (decode cX5_restore 99 = .ok (.aload_n 0, 1)) ∧ (decode cX5_restore 100 = .ok (.getfield 33, 3)) ∧ (decode cX5_restore 103 = .ok (.iconst 0, 1)) ∧ (decode cX5_restore 104 = .ok (.aload_n 0, 1)) ∧ (decode cX5_restore 105 = .ok (.getfield 29, 3)) ∧ (decode cX5_restore 108 = .ok (.iconst 0, 1)) ∧ (decode cX5_restore 109 = .ok (.bipush 20, 2)) ∧ True := dkW [(86, .aload_n 2, 1), (87, .getfield 201, 3), (90, .putfield 130, 3), (93, .iinc 1 1, 3), (96, .goto (-42), 3), (99, .aload_n 0, 1), (100, .getfield 33, 3), (103, .iconst 0, 1), (104, .aload_n 0, 1), (105, .getfield 29, 3), (108, .iconst 0, 1), (109, .bipush 20, 2)] 86 (by decide +kernel)
theorem dX5_restore_86 : decode cX5_restore 86 = .ok (.aload_n 2, 1) := dgX5_restore_86.1
theorem dX5_restore_87 : decode cX5_restore 87 = .ok (.getfield 201, 3) := dgX5_restore_86.2.1
theorem dX5_restore_90 : decode cX5_restore 90 = .ok (.putfield 130, 3) := dgX5_restore_86.2.2.1
theorem dX5_restore_93 : decode cX5_restore 93 = .ok (.iinc 1 1, 3) := dgX5_restore_86.2.2.2.1
theorem dX5_restore_96 : decode cX5_restore 96 = .ok (.goto (-42), 3) := dgX5_restore_86.2.2.2.2.1
theorem dX5_restore_99 : decode cX5_restore 99 = .ok (.aload_n 0, 1) := dgX5_restore_86.2.2.2.2.2.1
theorem dX5_restore_100 : decode cX5_restore 100 = .ok (.getfield 33, 3) := dgX5_restore_86.2.2.2.2.2.2.1
theorem dX5_restore_103 : decode cX5_restore 103 = .ok (.iconst 0, 1) := dgX5_restore_86.2.2.2.2.2.2.2.1
theorem dX5_restore_104 : decode cX5_restore 104 = .ok (.aload_n 0, 1) := dgX5_restore_86.2.2.2.2.2.2.2.2.1
theorem dX5_restore_105 : decode cX5_restore 105 = .ok (.getfield 29, 3) := dgX5_restore_86.2.2.2.2.2.2.2.2.2.1
theorem dX5_restore_108 : decode cX5_restore 108 = .ok (.iconst 0, 1) := dgX5_restore_86.2.2.2.2.2.2.2.2.2.2.1
theorem dX5_restore_109 : decode cX5_restore 109 = .ok (.bipush 20, 2) := dgX5_restore_86.2.2.2.2.2.2.2.2.2.2.2.1
theorem dgX5_restore_111 : (decode cX5_restore 111 = .ok (.invokestatic 204, 3)) ∧ (decode cX5_restore 114 = .ok (.aload_n 0, 1)) ∧ (decode cX5_restore 115 = .ok (.aload_n 0, 1)) ∧ (decode cX5_restore 116 = .ok (.getfield 210, 3)) ∧ (decode cX5_restore 119 = .ok (.putfield 163, 3)) ∧ (decode cX5_restore 122 = .ok (.aload_n 0, 1)) ∧ (decode cX5_restore 123 = .ok (.aload_n 0, 1)) ∧ (decode cX5_restore 124 = .ok (.getfield 213, 3)) ∧ (decode cX5_restore 127 = .ok (.putfield 166, 3)) ∧ (decode cX5_restore 130 = .ok (.return_, 1)) ∧ True := dkW [(111, .invokestatic 204, 3), (114, .aload_n 0, 1), (115, .aload_n 0, 1), (116, .getfield 210, 3), (119, .putfield 163, 3), (122, .aload_n 0, 1), (123, .aload_n 0, 1), (124, .getfield 213, 3), (127, .putfield 166, 3), (130, .return_, 1)] 111 (by decide +kernel)
theorem dX5_restore_111 : decode cX5_restore 111 = .ok (.invokestatic 204, 3) := dgX5_restore_111.1
theorem dX5_restore_114 : decode cX5_restore 114 = .ok (.aload_n 0, 1) := dgX5_restore_111.2.1
theorem dX5_restore_115 : decode cX5_restore 115 = .ok (.aload_n 0, 1) := dgX5_restore_111.2.2.1
theorem dX5_restore_116 : decode cX5_restore 116 = .ok (.getfield 210, 3) := dgX5_restore_111.2.2.2.1
theorem dX5_restore_119 : decode cX5_restore 119 = .ok (.putfield 163, 3) := dgX5_restore_111.2.2.2.2.1
theorem dX5_restore_122 : decode cX5_restore 122 = .ok (.aload_n 0, 1) := dgX5_restore_111.2.2.2.2.2.1
theorem dX5_restore_123 : decode cX5_restore 123 = .ok (.aload_n 0, 1) := dgX5_restore_111.2.2.2.2.2.2.1
theorem dX5_restore_124 : decode cX5_restore 124 = .ok (.getfield 213, 3) := dgX5_restore_111.2.2.2.2.2.2.2.1
theorem dX5_restore_127 : decode cX5_restore 127 = .ok (.putfield 166, 3) := dgX5_restore_111.2.2.2.2.2.2.2.2.1
theorem dX5_restore_130 : decode cX5_restore 130 = .ok (.return_, 1) := dgX5_restore_111.2.2.2.2.2.2.2.2.2.1
abbrev rmX5_restore : Room := { frames := 1, cells := 0, slots := 0, locals := 18 }
noncomputable def fX5_restore_b54_body (N : Nat)  (g54 : Hs → Int32 → Option (Hs)) (t : Nat) (h : Hs) (x1 : Int32) : Option (Hs) :=
  (oI 5 9 h (some t)).bind fun v1 =>
  if v1 ≤ x1 then (
  (oR 5 4 h (some t)).bind fun o2 =>
  (oR 5 3 h (some t)).bind fun o3 =>
  (cpA h o2 0 o3 0 20).bind fun h4 =>
  (oI 5 13 h4 (some t)).bind fun v5 =>
  (qI 5 11 h4 (some t) v5).bind fun h6 =>
  (oI 5 14 h6 (some t)).bind fun v7 =>
  (qI 5 12 h6 (some t) v7).bind fun h8 =>
  some h8)
  else (oR 5 2 h (some t)).bind fun o9 =>
  (lQ 25 h o9 x1).bind fun o10 =>
  (oR 4 9 h o10).bind fun o11 =>
  (qR 4 5 h o10 o11).bind fun h12 =>
  (oI 4 10 h12 o10).bind fun v13 =>
  (qI 4 6 h12 o10 v13).bind fun h14 =>
  (oI 4 11 h14 o10).bind fun v15 =>
  (qI 4 7 h14 o10 v15).bind fun h16 =>
  (some (x1 + 1)).bind fun y17 =>
  g54 h16 y17
noncomputable def fX5_restore_b54 (N : Nat)  (t : Nat) (n : Nat) : Hs → Int32 → Option (Hs) := lp (fun _ _ => none) (fun g h x1 => fX5_restore_b54_body N  g t h x1) n
set_option maxHeartbeats 4000000 in
set_option maxRecDepth 20000 in
theorem wX5_restore_b54_body {p : Program} {l : Launch} {e : Env} {s : State} {m : MethodId} {args : Array Value} {below : List Frame} {meth : Method} {c : Code} {G : Gl} {N : Nat} {h : Hs} {r : Hs}  {g54 : Hs → Int32 → Option (Hs)} {t : Nat} {x1 : Int32} (C : Cx p s m args meth c cX5_restore RX5 3 G) (hret : meth.sig.returnType = none)  (hg54 : ∀ (h : Hs) (x1 : Int32), g54 h x1 = some r → V p l e rmX5_restore s m args below meth c G 3 (MQ below (QcG G (none) r) args s rmX5_restore.cells rmX5_restore.slots (AG G)) h 0 0 54 [some (.inr (some t)), some (.inl x1), none] []) (hf : fX5_restore_b54_body N  g54 t h x1 = some r) : V p l e rmX5_restore s m args below meth c G 3 (MQ below (QcG G (none) r) args s rmX5_restore.cells rmX5_restore.slots (AG G)) h 0 0 54 [some (.inr (some t)), some (.inl x1), none] [] := by
  unfold fX5_restore_b54_body at hf
  refine r_iload_n C dX5_restore_54 rfl ?_
  refine r_aload_n C dX5_restore_55 rfl ?_
  obtain ⟨v1, ev1, hf⟩ := bS hf
  refine r_getI C dX5_restore_56 fl_X5_57 rfl ev1 ?_
  refine r_icmp_ge (tgt := 99) C dX5_restore_59 (by decide) (fun hc => ?_) (fun hc => ?_)
  · have hf := ifT hf hc
    refine r_aload_n C dX5_restore_99 rfl ?_
    obtain ⟨o2, eo2, hf⟩ := bS hf
    refine r_getR C dX5_restore_100 fl_X5_33 rfl eo2 ?_
    refine r_iconst (v := 0) C dX5_restore_103 (by decide) ?_
    refine r_aload_n C dX5_restore_104 rfl ?_
    obtain ⟨o3, eo3, hf⟩ := bS hf
    refine r_getR C dX5_restore_105 fl_X5_29 rfl eo3 ?_
    refine r_iconst (v := 0) C dX5_restore_108 (by decide) ?_
    refine r_bipush (v := 20) C dX5_restore_109 (by decide) ?_
    obtain ⟨h4, eh4, hf⟩ := bS hf
    refine r_copy C dX5_restore_111 ⟨wd_825, wd_827, wd_826, wd_15⟩ (by decide) (Nat.le_of_ble_eq_true rfl) eh4 ?_
    refine r_aload_n C dX5_restore_114 rfl ?_
    refine r_aload_n C dX5_restore_115 rfl ?_
    obtain ⟨v5, ev5, hf⟩ := bS hf
    refine r_getI C dX5_restore_116 fl_X5_210 rfl ev5 ?_
    obtain ⟨h6, eh6, hf⟩ := bS hf
    refine r_putI C dX5_restore_119 fl_X5_163 (Or.inl fn_5_11) rfl eh6 ?_
    refine r_aload_n C dX5_restore_122 rfl ?_
    refine r_aload_n C dX5_restore_123 rfl ?_
    obtain ⟨v7, ev7, hf⟩ := bS hf
    refine r_getI C dX5_restore_124 fl_X5_213 rfl ev7 ?_
    obtain ⟨h8, eh8, hf⟩ := bS hf
    refine r_putI C dX5_restore_127 fl_X5_166 (Or.inl fn_5_12) rfl eh8 ?_
    exact r_vretF C dX5_restore_130 hret hf (by decide) (by decide)
  · have hf := ifF hf hc
    refine r_aload_n C dX5_restore_62 rfl ?_
    obtain ⟨o9, eo9, hf⟩ := bS hf
    refine r_getR C dX5_restore_63 fl_X5_25 rfl eo9 ?_
    refine r_iload_n C dX5_restore_66 rfl ?_
    obtain ⟨o10, eo10, hf⟩ := bS hf
    refine r_qald (t := 5) C dX5_restore_67 (by decide) (by decide) rfl eo10 ?_
    refine r_astore_n C dX5_restore_68 (by decide) ?_
    refine r_aload_n C dX5_restore_69 rfl ?_
    refine r_aload_n C dX5_restore_70 rfl ?_
    obtain ⟨o11, eo11, hf⟩ := bS hf
    refine r_getR C dX5_restore_71 fl_X5_195 rfl eo11 ?_
    obtain ⟨h12, eh12, hf⟩ := bS hf
    refine r_putR C dX5_restore_74 fl_X5_125 (Or.inl fn_4_5) rfl eh12 ?_
    refine r_aload_n C dX5_restore_77 rfl ?_
    refine r_aload_n C dX5_restore_78 rfl ?_
    obtain ⟨v13, ev13, hf⟩ := bS hf
    refine r_getI C dX5_restore_79 fl_X5_198 rfl ev13 ?_
    obtain ⟨h14, eh14, hf⟩ := bS hf
    refine r_putI C dX5_restore_82 fl_X5_143 (Or.inl fn_4_6) rfl eh14 ?_
    refine r_aload_n C dX5_restore_85 rfl ?_
    refine r_aload_n C dX5_restore_86 rfl ?_
    obtain ⟨v15, ev15, hf⟩ := bS hf
    refine r_getI C dX5_restore_87 fl_X5_201 rfl ev15 ?_
    obtain ⟨h16, eh16, hf⟩ := bS hf
    refine r_putI C dX5_restore_90 fl_X5_130 (Or.inl fn_4_7) rfl eh16 ?_
    obtain ⟨y17, ey17, hf⟩ := bS hf
    refine r_iincE (v := 1) C dX5_restore_93 rfl (by decide) (by decide) ey17 ?_
    refine r_goto (tgt := 54) C dX5_restore_96 (by decide) ?_
    exact V.sub (hg54 _ _ hf) (LW_s rfl (LW_s rfl (LW_n (LW_e))))
theorem wX5_restore_b54 {p : Program} {l : Launch} {e : Env} {s : State} {m : MethodId} {args : Array Value} {below : List Frame} {meth : Method} {c : Code} {G : Gl} {N : Nat} {r : Hs}  {t : Nat} (C : Cx p s m args meth c cX5_restore RX5 3 G) (hret : meth.sig.returnType = none)  : ∀ (n : Nat) (h : Hs) (x1 : Int32), fX5_restore_b54 N  t n h x1 = some r → V p l e rmX5_restore s m args below meth c G 3 (MQ below (QcG G (none) r) args s rmX5_restore.cells rmX5_restore.slots (AG G)) h 0 0 54 [some (.inr (some t)), some (.inl x1), none] [] := by
  intro n
  induction n with
  | zero => intro h x1 hf; exact absurd (show (none : Option (Hs)) = some r from hf) (fun q => by cases q)
  | succ n ih => intro h x1 hf; exact wX5_restore_b54_body C hret  ih (show fX5_restore_b54_body N  (fX5_restore_b54 N  t n) t h x1 = some r from hf)
noncomputable def fX5_restore_b2_body (N : Nat)  (g2 : Hs → Int32 → Option (Hs)) (t : Nat) (h : Hs) (x1 : Int32) : Option (Hs) :=
  (oI 5 7 h (some t)).bind fun v1 =>
  if v1 ≤ x1 then (
  fX5_restore_b54 N t N h 0)
  else (oR 5 0 h (some t)).bind fun o2 =>
  (lQ 23 h o2 x1).bind fun o3 =>
  (oR 5 0 h (some t)).bind fun o4 =>
  (lQ 23 h o4 x1).bind fun o5 =>
  (oI 9 10 h o5).bind fun v6 =>
  (qI 9 7 h o3 v6).bind fun h7 =>
  (oR 5 0 h7 (some t)).bind fun o8 =>
  (lQ 23 h7 o8 x1).bind fun o9 =>
  (oR 5 0 h7 (some t)).bind fun o10 =>
  (lQ 23 h7 o10 x1).bind fun o11 =>
  (oR 9 11 h7 o11).bind fun o12 =>
  (qR 9 9 h7 o9 o12).bind fun h13 =>
  (some (x1 + 1)).bind fun y14 =>
  g2 h13 y14
noncomputable def fX5_restore_b2 (N : Nat)  (t : Nat) (n : Nat) : Hs → Int32 → Option (Hs) := lp (fun _ _ => none) (fun g h x1 => fX5_restore_b2_body N  g t h x1) n
set_option maxHeartbeats 4000000 in
set_option maxRecDepth 20000 in
theorem wX5_restore_b2_body {p : Program} {l : Launch} {e : Env} {s : State} {m : MethodId} {args : Array Value} {below : List Frame} {meth : Method} {c : Code} {G : Gl} {N : Nat} {h : Hs} {r : Hs}  {g2 : Hs → Int32 → Option (Hs)} {t : Nat} {x1 : Int32} (C : Cx p s m args meth c cX5_restore RX5 3 G) (hret : meth.sig.returnType = none)  (hg2 : ∀ (h : Hs) (x1 : Int32), g2 h x1 = some r → V p l e rmX5_restore s m args below meth c G 3 (MQ below (QcG G (none) r) args s rmX5_restore.cells rmX5_restore.slots (AG G)) h 0 0 2 [some (.inr (some t)), some (.inl x1), none] []) (hf : fX5_restore_b2_body N  g2 t h x1 = some r) : V p l e rmX5_restore s m args below meth c G 3 (MQ below (QcG G (none) r) args s rmX5_restore.cells rmX5_restore.slots (AG G)) h 0 0 2 [some (.inr (some t)), some (.inl x1), none] [] := by
  unfold fX5_restore_b2_body at hf
  refine r_iload_n C dX5_restore_2 rfl ?_
  refine r_aload_n C dX5_restore_3 rfl ?_
  obtain ⟨v1, ev1, hf⟩ := bS hf
  refine r_getI C dX5_restore_4 fl_X5_47 rfl ev1 ?_
  refine r_icmp_ge (tgt := 52) C dX5_restore_7 (by decide) (fun hc => ?_) (fun hc => ?_)
  · have hf := ifT hf hc
    refine r_iconst (v := 0) C dX5_restore_52 (by decide) ?_
    refine r_istore_n C dX5_restore_53 (by decide) ?_
    exact V.sub (wX5_restore_b54 C hret N _ _ hf) (LW_s rfl (LW_s rfl (LW_n (LW_e))))
  · have hf := ifF hf hc
    refine r_aload_n C dX5_restore_10 rfl ?_
    obtain ⟨o2, eo2, hf⟩ := bS hf
    refine r_getR C dX5_restore_11 fl_X5_11 rfl eo2 ?_
    refine r_iload_n C dX5_restore_14 rfl ?_
    obtain ⟨o3, eo3, hf⟩ := bS hf
    refine r_qald (t := 3) C dX5_restore_15 (by decide) (by decide) rfl eo3 ?_
    refine r_aload_n C dX5_restore_16 rfl ?_
    obtain ⟨o4, eo4, hf⟩ := bS hf
    refine r_getR C dX5_restore_17 fl_X5_11 rfl eo4 ?_
    refine r_iload_n C dX5_restore_20 rfl ?_
    obtain ⟨o5, eo5, hf⟩ := bS hf
    refine r_qald (t := 3) C dX5_restore_21 (by decide) (by decide) rfl eo5 ?_
    obtain ⟨v6, ev6, hf⟩ := bS hf
    refine r_getI C dX5_restore_22 fl_X5_189 rfl ev6 ?_
    obtain ⟨h7, eh7, hf⟩ := bS hf
    refine r_putI C dX5_restore_25 fl_X5_87 (Or.inl fn_9_7) rfl eh7 ?_
    refine r_aload_n C dX5_restore_28 rfl ?_
    obtain ⟨o8, eo8, hf⟩ := bS hf
    refine r_getR C dX5_restore_29 fl_X5_11 rfl eo8 ?_
    refine r_iload_n C dX5_restore_32 rfl ?_
    obtain ⟨o9, eo9, hf⟩ := bS hf
    refine r_qald (t := 3) C dX5_restore_33 (by decide) (by decide) rfl eo9 ?_
    refine r_aload_n C dX5_restore_34 rfl ?_
    obtain ⟨o10, eo10, hf⟩ := bS hf
    refine r_getR C dX5_restore_35 fl_X5_11 rfl eo10 ?_
    refine r_iload_n C dX5_restore_38 rfl ?_
    obtain ⟨o11, eo11, hf⟩ := bS hf
    refine r_qald (t := 3) C dX5_restore_39 (by decide) (by decide) rfl eo11 ?_
    obtain ⟨o12, eo12, hf⟩ := bS hf
    refine r_getR C dX5_restore_40 fl_X5_192 rfl eo12 ?_
    obtain ⟨h13, eh13, hf⟩ := bS hf
    refine r_putR C dX5_restore_43 fl_X5_113 (Or.inl fn_9_9) rfl eh13 ?_
    obtain ⟨y14, ey14, hf⟩ := bS hf
    refine r_iincE (v := 1) C dX5_restore_46 rfl (by decide) (by decide) ey14 ?_
    refine r_goto (tgt := 2) C dX5_restore_49 (by decide) ?_
    exact V.sub (hg2 _ _ hf) (LW_s rfl (LW_s rfl (LW_n (LW_e))))
theorem wX5_restore_b2 {p : Program} {l : Launch} {e : Env} {s : State} {m : MethodId} {args : Array Value} {below : List Frame} {meth : Method} {c : Code} {G : Gl} {N : Nat} {r : Hs}  {t : Nat} (C : Cx p s m args meth c cX5_restore RX5 3 G) (hret : meth.sig.returnType = none)  : ∀ (n : Nat) (h : Hs) (x1 : Int32), fX5_restore_b2 N  t n h x1 = some r → V p l e rmX5_restore s m args below meth c G 3 (MQ below (QcG G (none) r) args s rmX5_restore.cells rmX5_restore.slots (AG G)) h 0 0 2 [some (.inr (some t)), some (.inl x1), none] [] := by
  intro n
  induction n with
  | zero => intro h x1 hf; exact absurd (show (none : Option (Hs)) = some r from hf) (fun q => by cases q)
  | succ n ih => intro h x1 hf; exact wX5_restore_b2_body C hret  ih (show fX5_restore_b2_body N  (fX5_restore_b2 N  t n) t h x1 = some r from hf)
noncomputable def fX5_restore (N : Nat) (h : Hs) (t : Nat)  : Option (Hs) :=
  fX5_restore_b2 N t N h 0
set_option maxHeartbeats 4000000 in
set_option maxRecDepth 20000 in
theorem kX5_restore (l : Launch) (G : Gl) {N : Nat} {h : Hs} {t : Nat}  {r : Hs} (hf : fX5_restore N h t  = some r) : CT l G yX5_restore cX5_restore 3 none rmX5_restore [.inr (some t)] h (none) r := by
  refine mk_CT (by decide) (Nat.le_of_ble_eq_true rfl) ?_
  intro p e s m args below meth c C hret hin
  unfold fX5_restore at hf
  refine r_iconst (v := 0) C dX5_restore_0 (by decide) ?_
  refine r_istore_n C dX5_restore_1 (by decide) ?_
  exact V.sub (wX5_restore_b2 C hret N _ _ hf) (LW_s rfl (LW_s rfl (LW_n (LW_e))))

theorem dgX6_init_0 : (decode cX6_init 0 = .ok (.aload_n 0, 1)) ∧ (decode cX6_init 1 = .ok (.invokespecial 3, 3)) ∧ (decode cX6_init 4 = .ok (.aload_n 0, 1)) ∧ (decode cX6_init 5 = .ok (.bipush 12, 2)) ∧ (decode cX6_init 7 = .ok (.anewarray 9, 3)) ∧ (decode cX6_init 10 = .ok (.putfield 11, 3)) ∧ (decode cX6_init 13 = .ok (.aload_n 0, 1)) ∧ (decode cX6_init 14 = .ok (.bipush 6, 2)) ∧ (decode cX6_init 16 = .ok (.anewarray 9, 3)) ∧ (decode cX6_init 19 = .ok (.putfield 17, 3)) ∧ (decode cX6_init 22 = .ok (.aload_n 0, 1)) ∧ (decode cX6_init 23 = .ok (.bipush 6, 2)) ∧ True := dkW [(0, .aload_n 0, 1), (1, .invokespecial 3, 3), (4, .aload_n 0, 1), (5, .bipush 12, 2), (7, .anewarray 9, 3), (10, .putfield 11, 3), (13, .aload_n 0, 1), (14, .bipush 6, 2), (16, .anewarray 9, 3), (19, .putfield 17, 3), (22, .aload_n 0, 1), (23, .bipush 6, 2)] 0 (by decide +kernel)
theorem dX6_init_0 : decode cX6_init 0 = .ok (.aload_n 0, 1) := dgX6_init_0.1
theorem dX6_init_1 : decode cX6_init 1 = .ok (.invokespecial 3, 3) := dgX6_init_0.2.1
theorem dX6_init_4 : decode cX6_init 4 = .ok (.aload_n 0, 1) := dgX6_init_0.2.2.1
theorem dX6_init_5 : decode cX6_init 5 = .ok (.bipush 12, 2) := dgX6_init_0.2.2.2.1
theorem dX6_init_7 : decode cX6_init 7 = .ok (.anewarray 9, 3) := dgX6_init_0.2.2.2.2.1
theorem dX6_init_10 : decode cX6_init 10 = .ok (.putfield 11, 3) := dgX6_init_0.2.2.2.2.2.1
theorem dX6_init_13 : decode cX6_init 13 = .ok (.aload_n 0, 1) := dgX6_init_0.2.2.2.2.2.2.1
theorem dX6_init_14 : decode cX6_init 14 = .ok (.bipush 6, 2) := dgX6_init_0.2.2.2.2.2.2.2.1
theorem dX6_init_16 : decode cX6_init 16 = .ok (.anewarray 9, 3) := dgX6_init_0.2.2.2.2.2.2.2.2.1
theorem dX6_init_19 : decode cX6_init 19 = .ok (.putfield 17, 3) := dgX6_init_0.2.2.2.2.2.2.2.2.2.1
theorem dX6_init_22 : decode cX6_init 22 = .ok (.aload_n 0, 1) := dgX6_init_0.2.2.2.2.2.2.2.2.2.2.1
theorem dX6_init_23 : decode cX6_init 23 = .ok (.bipush 6, 2) := dgX6_init_0.2.2.2.2.2.2.2.2.2.2.2.1
theorem dgX6_init_25 : (decode cX6_init 25 = .ok (.newarray .int, 2)) ∧ (decode cX6_init 27 = .ok (.putfield 20, 3)) ∧ (decode cX6_init 30 = .ok (.aload_n 0, 1)) ∧ (decode cX6_init 31 = .ok (.sipush 4096, 3)) ∧ (decode cX6_init 34 = .ok (.newarray .int, 2)) ∧ (decode cX6_init 36 = .ok (.putfield 24, 3)) ∧ (decode cX6_init 39 = .ok (.return_, 1)) ∧ True := dkW [(25, .newarray .int, 2), (27, .putfield 20, 3), (30, .aload_n 0, 1), (31, .sipush 4096, 3), (34, .newarray .int, 2), (36, .putfield 24, 3), (39, .return_, 1)] 25 (by decide +kernel)
theorem dX6_init_25 : decode cX6_init 25 = .ok (.newarray .int, 2) := dgX6_init_25.1
theorem dX6_init_27 : decode cX6_init 27 = .ok (.putfield 20, 3) := dgX6_init_25.2.1
theorem dX6_init_30 : decode cX6_init 30 = .ok (.aload_n 0, 1) := dgX6_init_25.2.2.1
theorem dX6_init_31 : decode cX6_init 31 = .ok (.sipush 4096, 3) := dgX6_init_25.2.2.2.1
theorem dX6_init_34 : decode cX6_init 34 = .ok (.newarray .int, 2) := dgX6_init_25.2.2.2.2.1
theorem dX6_init_36 : decode cX6_init 36 = .ok (.putfield 24, 3) := dgX6_init_25.2.2.2.2.2.1
theorem dX6_init_39 : decode cX6_init 39 = .ok (.return_, 1) := dgX6_init_25.2.2.2.2.2.2.1
abbrev rmX6_init : Room := { frames := 1, cells := 4, slots := 4120, locals := 12 }
noncomputable def fX6_init (N : Nat) (h : Hs) (t : Nat)  : Option (Hs) :=
  (some (nw h (26, 12))).bind fun h1 =>
  (qR 6 0 h1 (some t) (some (sz h))).bind fun h2 =>
  (some (nw h2 (26, 6))).bind fun h3 =>
  (qR 6 1 h3 (some t) (some (sz h2))).bind fun h4 =>
  (some (nw h4 (20, 6))).bind fun h5 =>
  (qR 6 2 h5 (some t) (some (sz h4))).bind fun h6 =>
  (some (nw h6 (20, 4096))).bind fun h7 =>
  (qR 6 3 h7 (some t) (some (sz h6))).bind fun h8 =>
  some h8
set_option maxHeartbeats 4000000 in
set_option maxRecDepth 20000 in
theorem kX6_init (l : Launch) (G : Gl) {N : Nat} {h : Hs} {t : Nat}  {r : Hs} (hf : fX6_init N h t  = some r) : CT l G yX6_init cX6_init 1 none rmX6_init [.inr (some t)] h (none) r := by
  refine mk_CT (by decide) (Nat.le_of_ble_eq_true rfl) ?_
  intro p e s m args below meth c C hret hin
  unfold fX6_init at hf
  refine r_aload_n C dX6_init_0 rfl ?_
  refine r_objInit C dX6_init_1 wd_89 wd_24 wd_25 (by decide) (Nat.le_of_ble_eq_true rfl) ?_
  refine r_aload_n C dX6_init_4 rfl ?_
  refine r_bipush (v := 12) C dX6_init_5 (by decide) ?_
  obtain ⟨h1, eh1, hf⟩ := bS hf
  cases eh1
  refine r_newQ (t := 6) (N := 12) C dX6_init_7 (by decide) (by decide) rfl wd_90 (fun q => q.2.2.2.2) (by decide) (by decide) (by decide) (by decide) (by decide) ?_
  obtain ⟨h2, eh2, hf⟩ := bS hf
  refine r_putR C dX6_init_10 fl_X6_11 (Or.inr ⟨ff_6_0, hin⟩) rfl eh2 ?_
  refine r_aload_n C dX6_init_13 rfl ?_
  refine r_bipush (v := 6) C dX6_init_14 (by decide) ?_
  obtain ⟨h3, eh3, hf⟩ := bS hf
  cases eh3
  refine r_newQ (t := 6) (N := 6) C dX6_init_16 (by decide) (by decide) rfl wd_90 (fun q => q.2.2.2.2) (by decide) (by decide) (by decide) (by decide) (by decide) ?_
  obtain ⟨h4, eh4, hf⟩ := bS hf
  refine r_putR C dX6_init_19 fl_X6_17 (Or.inr ⟨ff_6_1, hin⟩) rfl eh4 ?_
  refine r_aload_n C dX6_init_22 rfl ?_
  refine r_bipush (v := 6) C dX6_init_23 (by decide) ?_
  obtain ⟨h5, eh5, hf⟩ := bS hf
  cases eh5
  refine r_newA (t := 0) (N := 6) C dX6_init_25 (by decide) rfl rfl wd_62 (by decide) (by decide) (by decide) (fun _ _ q => q) (by decide) (by decide) ?_
  obtain ⟨h6, eh6, hf⟩ := bS hf
  refine r_putR C dX6_init_27 fl_X6_20 (Or.inr ⟨ff_6_2, hin⟩) rfl eh6 ?_
  refine r_aload_n C dX6_init_30 rfl ?_
  refine r_sipush (v := 4096) C dX6_init_31 (by decide) ?_
  obtain ⟨h7, eh7, hf⟩ := bS hf
  cases eh7
  refine r_newA (t := 0) (N := 4096) C dX6_init_34 (by decide) rfl rfl wd_62 (by decide) (by decide) (by decide) (fun _ _ q => q) (by decide) (by decide) ?_
  obtain ⟨h8, eh8, hf⟩ := bS hf
  refine r_putR C dX6_init_36 fl_X6_24 (Or.inr ⟨ff_6_3, hin⟩) rfl eh8 ?_
  exact r_vretF C dX6_init_39 hret hf (by decide) (by decide)

theorem dgX6_isPanel_0 : (decode cX6_isPanel 0 = .ok (.iload_n 0, 1)) ∧ (decode cX6_isPanel 1 = .ok (.bipush 100, 2)) ∧ (decode cX6_isPanel 3 = .ok (.idiv, 1)) ∧ (decode cX6_isPanel 4 = .ok (.iconst 1, 1)) ∧ (decode cX6_isPanel 5 = .ok (.bipush 99, 2)) ∧ (decode cX6_isPanel 7 = .ok (.invokestatic 41, 3)) ∧ (decode cX6_isPanel 10 = .ok (.ifCond .eq 30, 3)) ∧ (decode cX6_isPanel 13 = .ok (.iload_n 0, 1)) ∧ (decode cX6_isPanel 14 = .ok (.bipush 100, 2)) ∧ (decode cX6_isPanel 16 = .ok (.irem, 1)) ∧ (decode cX6_isPanel 17 = .ok (.iconst 1, 1)) ∧ (decode cX6_isPanel 18 = .ok (.bipush 99, 2)) ∧ True := dkW [(0, .iload_n 0, 1), (1, .bipush 100, 2), (3, .idiv, 1), (4, .iconst 1, 1), (5, .bipush 99, 2), (7, .invokestatic 41, 3), (10, .ifCond .eq 30, 3), (13, .iload_n 0, 1), (14, .bipush 100, 2), (16, .irem, 1), (17, .iconst 1, 1), (18, .bipush 99, 2)] 0 (by decide +kernel)
theorem dX6_isPanel_0 : decode cX6_isPanel 0 = .ok (.iload_n 0, 1) := dgX6_isPanel_0.1
theorem dX6_isPanel_1 : decode cX6_isPanel 1 = .ok (.bipush 100, 2) := dgX6_isPanel_0.2.1
theorem dX6_isPanel_3 : decode cX6_isPanel 3 = .ok (.idiv, 1) := dgX6_isPanel_0.2.2.1
theorem dX6_isPanel_4 : decode cX6_isPanel 4 = .ok (.iconst 1, 1) := dgX6_isPanel_0.2.2.2.1
theorem dX6_isPanel_5 : decode cX6_isPanel 5 = .ok (.bipush 99, 2) := dgX6_isPanel_0.2.2.2.2.1
theorem dX6_isPanel_7 : decode cX6_isPanel 7 = .ok (.invokestatic 41, 3) := dgX6_isPanel_0.2.2.2.2.2.1
theorem dX6_isPanel_10 : decode cX6_isPanel 10 = .ok (.ifCond .eq 30, 3) := dgX6_isPanel_0.2.2.2.2.2.2.1
theorem dX6_isPanel_13 : decode cX6_isPanel 13 = .ok (.iload_n 0, 1) := dgX6_isPanel_0.2.2.2.2.2.2.2.1
theorem dX6_isPanel_14 : decode cX6_isPanel 14 = .ok (.bipush 100, 2) := dgX6_isPanel_0.2.2.2.2.2.2.2.2.1
theorem dX6_isPanel_16 : decode cX6_isPanel 16 = .ok (.irem, 1) := dgX6_isPanel_0.2.2.2.2.2.2.2.2.2.1
theorem dX6_isPanel_17 : decode cX6_isPanel 17 = .ok (.iconst 1, 1) := dgX6_isPanel_0.2.2.2.2.2.2.2.2.2.2.1
theorem dX6_isPanel_18 : decode cX6_isPanel 18 = .ok (.bipush 99, 2) := dgX6_isPanel_0.2.2.2.2.2.2.2.2.2.2.2.1
theorem dgX6_isPanel_20 : (decode cX6_isPanel 20 = .ok (.invokestatic 41, 3)) ∧ (decode cX6_isPanel 23 = .ok (.ifCond .eq 17, 3)) ∧ (decode cX6_isPanel 26 = .ok (.iload_n 1, 1)) ∧ (decode cX6_isPanel 27 = .ok (.iconst 0, 1)) ∧ (decode cX6_isPanel 28 = .ok (.bipush 9, 2)) ∧ (decode cX6_isPanel 30 = .ok (.invokestatic 41, 3)) ∧ (decode cX6_isPanel 33 = .ok (.ifCond .eq 7, 3)) ∧ (decode cX6_isPanel 36 = .ok (.iconst 1, 1)) ∧ (decode cX6_isPanel 37 = .ok (.goto 4, 3)) ∧ (decode cX6_isPanel 40 = .ok (.iconst 0, 1)) ∧ (decode cX6_isPanel 41 = .ok (.ireturn, 1)) ∧ True := dkW [(20, .invokestatic 41, 3), (23, .ifCond .eq 17, 3), (26, .iload_n 1, 1), (27, .iconst 0, 1), (28, .bipush 9, 2), (30, .invokestatic 41, 3), (33, .ifCond .eq 7, 3), (36, .iconst 1, 1), (37, .goto 4, 3), (40, .iconst 0, 1), (41, .ireturn, 1)] 20 (by decide +kernel)
theorem dX6_isPanel_20 : decode cX6_isPanel 20 = .ok (.invokestatic 41, 3) := dgX6_isPanel_20.1
theorem dX6_isPanel_23 : decode cX6_isPanel 23 = .ok (.ifCond .eq 17, 3) := dgX6_isPanel_20.2.1
theorem dX6_isPanel_26 : decode cX6_isPanel 26 = .ok (.iload_n 1, 1) := dgX6_isPanel_20.2.2.1
theorem dX6_isPanel_27 : decode cX6_isPanel 27 = .ok (.iconst 0, 1) := dgX6_isPanel_20.2.2.2.1
theorem dX6_isPanel_28 : decode cX6_isPanel 28 = .ok (.bipush 9, 2) := dgX6_isPanel_20.2.2.2.2.1
theorem dX6_isPanel_30 : decode cX6_isPanel 30 = .ok (.invokestatic 41, 3) := dgX6_isPanel_20.2.2.2.2.2.1
theorem dX6_isPanel_33 : decode cX6_isPanel 33 = .ok (.ifCond .eq 7, 3) := dgX6_isPanel_20.2.2.2.2.2.2.1
theorem dX6_isPanel_36 : decode cX6_isPanel 36 = .ok (.iconst 1, 1) := dgX6_isPanel_20.2.2.2.2.2.2.2.1
theorem dX6_isPanel_37 : decode cX6_isPanel 37 = .ok (.goto 4, 3) := dgX6_isPanel_20.2.2.2.2.2.2.2.2.1
theorem dX6_isPanel_40 : decode cX6_isPanel 40 = .ok (.iconst 0, 1) := dgX6_isPanel_20.2.2.2.2.2.2.2.2.2.1
theorem dX6_isPanel_41 : decode cX6_isPanel 41 = .ok (.ireturn, 1) := dgX6_isPanel_20.2.2.2.2.2.2.2.2.2.2.1
abbrev rmX6_isPanel : Room := { frames := 1, cells := 0, slots := 0, locals := 22 }
noncomputable def fX6_isPanel_b41 (N : Nat)  (h : Hs) (u0 : Int32) : Option (Int32 × Hs) :=
  (zc u0).bind fun z1 =>
  some (z1, h)
set_option maxHeartbeats 4000000 in
set_option maxRecDepth 20000 in
theorem wX6_isPanel_b41 {p : Program} {l : Launch} {e : Env} {s : State} {m : MethodId} {args : Array Value} {below : List Frame} {meth : Method} {c : Code} {G : Gl} {N : Nat} {h : Hs} {r : Int32 × Hs}  {u0 : Int32} (C : Cx p s m args meth c cX6_isPanel RX6 2 G) (hret : meth.sig.returnType = (some .boolean))  (hf : fX6_isPanel_b41 N  h u0 = some r) : V p l e rmX6_isPanel s m args below meth c G 2 (MQ below (QcG G (some (.inl r.1)) r.2) args s rmX6_isPanel.cells rmX6_isPanel.slots (AG G)) h 0 0 41 [none, none] [.inl u0] := by
  unfold fX6_isPanel_b41 at hf
  obtain ⟨z1, ez1, hf⟩ := bS hf
  exact r_zretF C dX6_isPanel_41 hret ez1 hf (by decide) (by decide)
noncomputable def fX6_isPanel_b40 (N : Nat)  (h : Hs)  : Option (Int32 × Hs) :=
  fX6_isPanel_b41 N h 0
set_option maxHeartbeats 4000000 in
set_option maxRecDepth 20000 in
theorem wX6_isPanel_b40 {p : Program} {l : Launch} {e : Env} {s : State} {m : MethodId} {args : Array Value} {below : List Frame} {meth : Method} {c : Code} {G : Gl} {N : Nat} {h : Hs} {r : Int32 × Hs}   (C : Cx p s m args meth c cX6_isPanel RX6 2 G) (hret : meth.sig.returnType = (some .boolean))  (hf : fX6_isPanel_b40 N  h  = some r) : V p l e rmX6_isPanel s m args below meth c G 2 (MQ below (QcG G (some (.inl r.1)) r.2) args s rmX6_isPanel.cells rmX6_isPanel.slots (AG G)) h 0 0 40 [none, none] [] := by
  unfold fX6_isPanel_b40 at hf
  refine r_iconst (v := 0) C dX6_isPanel_40 (by decide) ?_
  exact V.sub (wX6_isPanel_b41 C hret hf) (LW_n (LW_n (LW_e)))
noncomputable def fX6_isPanel (N : Nat) (h : Hs) (p0 : Int32) (p1 : Int32) : Option (Int32 × Hs) :=
  (fX11_isWithin N h (p0 / 100) 1 99).bind fun r1 =>
  if r1.1 = 0 then (
  fX6_isPanel_b40 N r1.2)
  else (fX11_isWithin N r1.2 (p0 - p0 / 100 * 100) 1 99).bind fun r2 =>
  if r2.1 = 0 then (
  fX6_isPanel_b40 N r2.2)
  else (fX11_isWithin N r2.2 p1 0 9).bind fun r3 =>
  if r3.1 = 0 then (
  fX6_isPanel_b40 N r3.2)
  else fX6_isPanel_b41 N r3.2 1
set_option maxHeartbeats 4000000 in
set_option maxRecDepth 20000 in
theorem kX6_isPanel (l : Launch) (G : Gl) {N : Nat} {h : Hs} {p0 : Int32} {p1 : Int32} {r : Int32 × Hs} (hf : fX6_isPanel N h p0 p1 = some r) : CT l G yX6_isPanel cX6_isPanel 2 (some .boolean) rmX6_isPanel [.inl p0, .inl p1] h (some (.inl r.1)) r.2 := by
  refine mk_CT (by decide) (Nat.le_of_ble_eq_true rfl) ?_
  intro p e s m args below meth c C hret hin
  unfold fX6_isPanel at hf
  refine r_iload_n C dX6_isPanel_0 rfl ?_
  refine r_bipush (v := 100) C dX6_isPanel_1 (by decide) ?_
  refine r_idivK C dX6_isPanel_3 (by decide) ?_
  refine r_iconst (v := 1) C dX6_isPanel_4 (by decide) ?_
  refine r_bipush (v := 99) C dX6_isPanel_5 (by decide) ?_
  obtain ⟨r1, er1, hf⟩ := bS hf
  refine r_invSN1 (As := [.inl (p0 / 100), .inl 1, .inl 99]) (host := "StageMachine") C dX6_isPanel_7 mcX11_isWithin (by decide) wd_291 ⟨by decide, by decide⟩ ⟨by decide, by decide⟩ rfl (Nat.le_of_ble_eq_true rfl) (kX11_isWithin l G er1) ?_
  refine r_if_eq (tgt := 40) C dX6_isPanel_10 (by decide) (fun hc => ?_) (fun hc => ?_)
  · have hf := ifT hf hc
    exact V.sub (wX6_isPanel_b40 C hret hf) (LW_n (LW_n (LW_e)))
  · have hf := ifF hf hc
    refine r_iload_n C dX6_isPanel_13 rfl ?_
    refine r_bipush (v := 100) C dX6_isPanel_14 (by decide) ?_
    refine r_iremK C dX6_isPanel_16 (by decide) ?_
    refine r_iconst (v := 1) C dX6_isPanel_17 (by decide) ?_
    refine r_bipush (v := 99) C dX6_isPanel_18 (by decide) ?_
    obtain ⟨r2, er2, hf⟩ := bS hf
    refine r_invSN1 (As := [.inl (p0 - p0 / 100 * 100), .inl 1, .inl 99]) (host := "StageMachine") C dX6_isPanel_20 mcX11_isWithin (by decide) wd_291 ⟨by decide, by decide⟩ ⟨by decide, by decide⟩ rfl (Nat.le_of_ble_eq_true rfl) (kX11_isWithin l G er2) ?_
    refine r_if_eq (tgt := 40) C dX6_isPanel_23 (by decide) (fun hc => ?_) (fun hc => ?_)
    · have hf := ifT hf hc
      exact V.sub (wX6_isPanel_b40 C hret hf) (LW_n (LW_n (LW_e)))
    · have hf := ifF hf hc
      refine r_iload_n C dX6_isPanel_26 rfl ?_
      refine r_iconst (v := 0) C dX6_isPanel_27 (by decide) ?_
      refine r_bipush (v := 9) C dX6_isPanel_28 (by decide) ?_
      obtain ⟨r3, er3, hf⟩ := bS hf
      refine r_invSN1 (As := [.inl p1, .inl 0, .inl 9]) (host := "StageMachine") C dX6_isPanel_30 mcX11_isWithin (by decide) wd_291 ⟨by decide, by decide⟩ ⟨by decide, by decide⟩ rfl (Nat.le_of_ble_eq_true rfl) (kX11_isWithin l G er3) ?_
      refine r_if_eq (tgt := 40) C dX6_isPanel_33 (by decide) (fun hc => ?_) (fun hc => ?_)
      · have hf := ifT hf hc
        exact V.sub (wX6_isPanel_b40 C hret hf) (LW_n (LW_n (LW_e)))
      · have hf := ifF hf hc
        refine r_iconst (v := 1) C dX6_isPanel_36 (by decide) ?_
        refine r_goto (tgt := 41) C dX6_isPanel_37 (by decide) ?_
        exact V.sub (wX6_isPanel_b41 C hret hf) (LW_n (LW_n (LW_e)))

theorem dgX6_addFlat_0 : (decode cX6_addFlat 0 = .ok (.iload_n 1, 1)) ∧ (decode cX6_addFlat 1 = .ok (.iload_n 2, 1)) ∧ (decode cX6_addFlat 2 = .ok (.invokestatic 27, 3)) ∧ (decode cX6_addFlat 5 = .ok (.ifCond .ne 5, 3)) ∧ True := dkW [(0, .iload_n 1, 1), (1, .iload_n 2, 1), (2, .invokestatic 27, 3), (5, .ifCond .ne 5, 3)] 0 (by decide +kernel)
theorem dX6_addFlat_0 : decode cX6_addFlat 0 = .ok (.iload_n 1, 1) := dgX6_addFlat_0.1
theorem dX6_addFlat_1 : decode cX6_addFlat 1 = .ok (.iload_n 2, 1) := dgX6_addFlat_0.2.1
theorem dX6_addFlat_2 : decode cX6_addFlat 2 = .ok (.invokestatic 27, 3) := dgX6_addFlat_0.2.2.1
theorem dX6_addFlat_5 : decode cX6_addFlat 5 = .ok (.ifCond .ne 5, 3) := dgX6_addFlat_0.2.2.2.1
theorem dX6_addFlat_8 : decode cX6_addFlat 8 = .ok (.iconst (-1), 1) := by decide +kernel
theorem dgX6_addFlat_9 : (decode cX6_addFlat 9 = .ok (.ireturn, 1)) ∧ (decode cX6_addFlat 10 = .ok (.aload_n 0, 1)) ∧ (decode cX6_addFlat 11 = .ok (.getfield 31, 3)) ∧ (decode cX6_addFlat 14 = .ok (.bipush 12, 2)) ∧ (decode cX6_addFlat 16 = .ok (.if_icmp .lt 6, 3)) ∧ (decode cX6_addFlat 19 = .ok (.bipush (-3), 2)) ∧ (decode cX6_addFlat 21 = .ok (.ireturn, 1)) ∧ (decode cX6_addFlat 22 = .ok (.aload_n 0, 1)) ∧ (decode cX6_addFlat 23 = .ok (.getfield 11, 3)) ∧ (decode cX6_addFlat 26 = .ok (.aload_n 0, 1)) ∧ (decode cX6_addFlat 27 = .ok (.getfield 31, 3)) ∧ (decode cX6_addFlat 30 = .ok (.new 9, 3)) ∧ True := dkW [(9, .ireturn, 1), (10, .aload_n 0, 1), (11, .getfield 31, 3), (14, .bipush 12, 2), (16, .if_icmp .lt 6, 3), (19, .bipush (-3), 2), (21, .ireturn, 1), (22, .aload_n 0, 1), (23, .getfield 11, 3), (26, .aload_n 0, 1), (27, .getfield 31, 3), (30, .new 9, 3)] 9 (by decide +kernel)
theorem dX6_addFlat_9 : decode cX6_addFlat 9 = .ok (.ireturn, 1) := dgX6_addFlat_9.1
theorem dX6_addFlat_10 : decode cX6_addFlat 10 = .ok (.aload_n 0, 1) := dgX6_addFlat_9.2.1
theorem dX6_addFlat_11 : decode cX6_addFlat 11 = .ok (.getfield 31, 3) := dgX6_addFlat_9.2.2.1
theorem dX6_addFlat_14 : decode cX6_addFlat 14 = .ok (.bipush 12, 2) := dgX6_addFlat_9.2.2.2.1
theorem dX6_addFlat_16 : decode cX6_addFlat 16 = .ok (.if_icmp .lt 6, 3) := dgX6_addFlat_9.2.2.2.2.1
theorem dX6_addFlat_19 : decode cX6_addFlat 19 = .ok (.bipush (-3), 2) := dgX6_addFlat_9.2.2.2.2.2.1
theorem dX6_addFlat_21 : decode cX6_addFlat 21 = .ok (.ireturn, 1) := dgX6_addFlat_9.2.2.2.2.2.2.1
theorem dX6_addFlat_22 : decode cX6_addFlat 22 = .ok (.aload_n 0, 1) := dgX6_addFlat_9.2.2.2.2.2.2.2.1
theorem dX6_addFlat_23 : decode cX6_addFlat 23 = .ok (.getfield 11, 3) := dgX6_addFlat_9.2.2.2.2.2.2.2.2.1
theorem dX6_addFlat_26 : decode cX6_addFlat 26 = .ok (.aload_n 0, 1) := dgX6_addFlat_9.2.2.2.2.2.2.2.2.2.1
theorem dX6_addFlat_27 : decode cX6_addFlat 27 = .ok (.getfield 31, 3) := dgX6_addFlat_9.2.2.2.2.2.2.2.2.2.2.1
theorem dX6_addFlat_30 : decode cX6_addFlat 30 = .ok (.new 9, 3) := dgX6_addFlat_9.2.2.2.2.2.2.2.2.2.2.2.1
theorem dgX6_addFlat_33 : (decode cX6_addFlat 33 = .ok (.dup, 1)) ∧ (decode cX6_addFlat 34 = .ok (.iload_n 1, 1)) ∧ (decode cX6_addFlat 35 = .ok (.iload_n 2, 1)) ∧ (decode cX6_addFlat 36 = .ok (.invokespecial 35, 3)) ∧ (decode cX6_addFlat 39 = .ok (.aastore, 1)) ∧ (decode cX6_addFlat 40 = .ok (.aload_n 0, 1)) ∧ (decode cX6_addFlat 41 = .ok (.dup, 1)) ∧ (decode cX6_addFlat 42 = .ok (.getfield 31, 3)) ∧ (decode cX6_addFlat 45 = .ok (.dup_x1, 1)) ∧ (decode cX6_addFlat 46 = .ok (.iconst 1, 1)) ∧ (decode cX6_addFlat 47 = .ok (.iadd, 1)) ∧ (decode cX6_addFlat 48 = .ok (.putfield 31, 3)) ∧ True := dkW [(33, .dup, 1), (34, .iload_n 1, 1), (35, .iload_n 2, 1), (36, .invokespecial 35, 3), (39, .aastore, 1), (40, .aload_n 0, 1), (41, .dup, 1), (42, .getfield 31, 3), (45, .dup_x1, 1), (46, .iconst 1, 1), (47, .iadd, 1), (48, .putfield 31, 3)] 33 (by decide +kernel)
theorem dX6_addFlat_33 : decode cX6_addFlat 33 = .ok (.dup, 1) := dgX6_addFlat_33.1
theorem dX6_addFlat_34 : decode cX6_addFlat 34 = .ok (.iload_n 1, 1) := dgX6_addFlat_33.2.1
theorem dX6_addFlat_35 : decode cX6_addFlat 35 = .ok (.iload_n 2, 1) := dgX6_addFlat_33.2.2.1
theorem dX6_addFlat_36 : decode cX6_addFlat 36 = .ok (.invokespecial 35, 3) := dgX6_addFlat_33.2.2.2.1
theorem dX6_addFlat_39 : decode cX6_addFlat 39 = .ok (.aastore, 1) := dgX6_addFlat_33.2.2.2.2.1
theorem dX6_addFlat_40 : decode cX6_addFlat 40 = .ok (.aload_n 0, 1) := dgX6_addFlat_33.2.2.2.2.2.1
theorem dX6_addFlat_41 : decode cX6_addFlat 41 = .ok (.dup, 1) := dgX6_addFlat_33.2.2.2.2.2.2.1
theorem dX6_addFlat_42 : decode cX6_addFlat 42 = .ok (.getfield 31, 3) := dgX6_addFlat_33.2.2.2.2.2.2.2.1
theorem dX6_addFlat_45 : decode cX6_addFlat 45 = .ok (.dup_x1, 1) := dgX6_addFlat_33.2.2.2.2.2.2.2.2.1
theorem dX6_addFlat_46 : decode cX6_addFlat 46 = .ok (.iconst 1, 1) := dgX6_addFlat_33.2.2.2.2.2.2.2.2.2.1
theorem dX6_addFlat_47 : decode cX6_addFlat 47 = .ok (.iadd, 1) := dgX6_addFlat_33.2.2.2.2.2.2.2.2.2.2.1
theorem dX6_addFlat_48 : decode cX6_addFlat 48 = .ok (.putfield 31, 3) := dgX6_addFlat_33.2.2.2.2.2.2.2.2.2.2.2.1
theorem dgX6_addFlat_51 : (decode cX6_addFlat 51 = .ok (.ireturn, 1)) ∧ True := dkW [(51, .ireturn, 1)] 51 (by decide +kernel)
theorem dX6_addFlat_51 : decode cX6_addFlat 51 = .ok (.ireturn, 1) := dgX6_addFlat_51.1
abbrev rmX6_addFlat : Room := { frames := 2, cells := 1, slots := 3, locals := 43 }
noncomputable def fX6_addFlat (N : Nat) (h : Hs) (t : Nat) (p1 : Int32) (p2 : Int32) : Option (Int32 × Hs) :=
  (fX6_isPanel N h p1 p2).bind fun r1 =>
  if r1.1 = 0 then (
  some ((-1), r1.2))
  else (oI 6 4 r1.2 (some t)).bind fun v2 =>
  if v2 < 12 then (
  (oR 6 0 r1.2 (some t)).bind fun o3 =>
  (oI 6 4 r1.2 (some t)).bind fun v4 =>
  (some (nw r1.2 (3, 0))).bind fun h5 =>
  (fX3_init N h5 (sz r1.2) p1 p2).bind fun r6 =>
  (sQ 26 3 r6 o3 v4 (some (sz r1.2))).bind fun h7 =>
  (oI 6 4 h7 (some t)).bind fun v8 =>
  (qI 6 4 h7 (some t) (v8 + 1)).bind fun h9 =>
  some (v8, h9))
  else some ((-3), r1.2)
set_option maxHeartbeats 4000000 in
set_option maxRecDepth 20000 in
theorem kX6_addFlat (l : Launch) (G : Gl) {N : Nat} {h : Hs} {t : Nat} {p1 : Int32} {p2 : Int32} {r : Int32 × Hs} (hf : fX6_addFlat N h t p1 p2 = some r) : CT l G yX6_addFlat cX6_addFlat 3 (some .int) rmX6_addFlat [.inr (some t), .inl p1, .inl p2] h (some (.inl r.1)) r.2 := by
  refine mk_CT (by decide) (Nat.le_of_ble_eq_true rfl) ?_
  intro p e s m args below meth c C hret hin
  unfold fX6_addFlat at hf
  refine r_iload_n C dX6_addFlat_0 rfl ?_
  refine r_iload_n C dX6_addFlat_1 rfl ?_
  obtain ⟨r1, er1, hf⟩ := bS hf
  refine r_invS1 (As := [.inl p1, .inl p2]) C dX6_addFlat_2 mcX6_isPanel wd_890 wd_891 ⟨by decide, by decide⟩ ⟨by decide, by decide⟩ rfl (Nat.le_of_ble_eq_true rfl) (kX6_isPanel l G er1) ?_
  refine r_if_ne (tgt := 10) C dX6_addFlat_5 (by decide) (fun hc => ?_) (fun hc => ?_)
  · have hf := ifF hf hc
    refine r_aload_n C dX6_addFlat_10 rfl ?_
    obtain ⟨v2, ev2, hf⟩ := bS hf
    refine r_getI C dX6_addFlat_11 fl_X6_31 rfl ev2 ?_
    refine r_bipush (v := 12) C dX6_addFlat_14 (by decide) ?_
    refine r_icmp_lt (tgt := 22) C dX6_addFlat_16 (by decide) (fun hc => ?_) (fun hc => ?_)
    · have hf := ifT hf hc
      refine r_aload_n C dX6_addFlat_22 rfl ?_
      obtain ⟨o3, eo3, hf⟩ := bS hf
      refine r_getR C dX6_addFlat_23 fl_X6_11 rfl eo3 ?_
      refine r_aload_n C dX6_addFlat_26 rfl ?_
      obtain ⟨v4, ev4, hf⟩ := bS hf
      refine r_getI C dX6_addFlat_27 fl_X6_31 rfl ev4 ?_
      obtain ⟨h5, eh5, hf⟩ := bS hf
      cases eh5
      refine r_new C dX6_addFlat_30 fc_3 wd_90 wd_894 wd_16 (by decide) (by decide) (by decide) ?_
      refine r_dup C dX6_addFlat_33 ?_
      refine r_iload_n C dX6_addFlat_34 rfl ?_
      refine r_iload_n C dX6_addFlat_35 rfl ?_
      obtain ⟨r6, er6, hf⟩ := bS hf
      refine r_invI0 (As := [.inl p1, .inl p2]) C dX6_addFlat_36 mcX3_init wd_895 wd_896 rfl ⟨by decide, by decide⟩ ⟨by decide, by decide⟩ rfl (Nat.le_of_ble_eq_true rfl) (kX3_init l G er6) ?_
      obtain ⟨h7, eh7, hf⟩ := bS hf
      refine r_qast (t := 6) (ci := 3) C dX6_addFlat_39 (by decide) (by decide) (by decide) rfl rfl eh7 ?_
      refine r_aload_n C dX6_addFlat_40 rfl ?_
      refine r_dup C dX6_addFlat_41 ?_
      obtain ⟨v8, ev8, hf⟩ := bS hf
      refine r_getI C dX6_addFlat_42 fl_X6_31 rfl ev8 ?_
      refine r_dup_x1 C dX6_addFlat_45 ?_
      refine r_iconst (v := 1) C dX6_addFlat_46 (by decide) ?_
      refine r_iadd C dX6_addFlat_47 ?_
      obtain ⟨h9, eh9, hf⟩ := bS hf
      refine r_putI C dX6_addFlat_48 fl_X6_31 (Or.inl fn_6_4) rfl eh9 ?_
      exact r_iretF C dX6_addFlat_51 hret hf (by decide) (by decide)
    · have hf := ifF hf hc
      refine r_bipush (v := -3) C dX6_addFlat_19 (by decide) ?_
      exact r_iretF C dX6_addFlat_21 hret hf (by decide) (by decide)
  · have hf := ifT hf hc
    refine r_iconst (v := -1) C dX6_addFlat_8 (by decide) ?_
    exact r_iretF C dX6_addFlat_9 hret hf (by decide) (by decide)

theorem dgX6_addWant_0 : (decode cX6_addWant 0 = .ok (.iload_n 1, 1)) ∧ (decode cX6_addWant 1 = .ok (.iload_n 2, 1)) ∧ (decode cX6_addWant 2 = .ok (.invokestatic 27, 3)) ∧ (decode cX6_addWant 5 = .ok (.ifCond .ne 5, 3)) ∧ True := dkW [(0, .iload_n 1, 1), (1, .iload_n 2, 1), (2, .invokestatic 27, 3), (5, .ifCond .ne 5, 3)] 0 (by decide +kernel)
theorem dX6_addWant_0 : decode cX6_addWant 0 = .ok (.iload_n 1, 1) := dgX6_addWant_0.1
theorem dX6_addWant_1 : decode cX6_addWant 1 = .ok (.iload_n 2, 1) := dgX6_addWant_0.2.1
theorem dX6_addWant_2 : decode cX6_addWant 2 = .ok (.invokestatic 27, 3) := dgX6_addWant_0.2.2.1
theorem dX6_addWant_5 : decode cX6_addWant 5 = .ok (.ifCond .ne 5, 3) := dgX6_addWant_0.2.2.2.1
theorem dX6_addWant_8 : decode cX6_addWant 8 = .ok (.iconst (-1), 1) := by decide +kernel
theorem dgX6_addWant_9 : (decode cX6_addWant 9 = .ok (.ireturn, 1)) ∧ (decode cX6_addWant 10 = .ok (.aload_n 0, 1)) ∧ (decode cX6_addWant 11 = .ok (.getfield 38, 3)) ∧ (decode cX6_addWant 14 = .ok (.bipush 6, 2)) ∧ (decode cX6_addWant 16 = .ok (.if_icmp .lt 6, 3)) ∧ (decode cX6_addWant 19 = .ok (.bipush (-3), 2)) ∧ (decode cX6_addWant 21 = .ok (.ireturn, 1)) ∧ (decode cX6_addWant 22 = .ok (.aload_n 0, 1)) ∧ (decode cX6_addWant 23 = .ok (.getfield 17, 3)) ∧ (decode cX6_addWant 26 = .ok (.aload_n 0, 1)) ∧ (decode cX6_addWant 27 = .ok (.getfield 38, 3)) ∧ (decode cX6_addWant 30 = .ok (.new 9, 3)) ∧ True := dkW [(9, .ireturn, 1), (10, .aload_n 0, 1), (11, .getfield 38, 3), (14, .bipush 6, 2), (16, .if_icmp .lt 6, 3), (19, .bipush (-3), 2), (21, .ireturn, 1), (22, .aload_n 0, 1), (23, .getfield 17, 3), (26, .aload_n 0, 1), (27, .getfield 38, 3), (30, .new 9, 3)] 9 (by decide +kernel)
theorem dX6_addWant_9 : decode cX6_addWant 9 = .ok (.ireturn, 1) := dgX6_addWant_9.1
theorem dX6_addWant_10 : decode cX6_addWant 10 = .ok (.aload_n 0, 1) := dgX6_addWant_9.2.1
theorem dX6_addWant_11 : decode cX6_addWant 11 = .ok (.getfield 38, 3) := dgX6_addWant_9.2.2.1
theorem dX6_addWant_14 : decode cX6_addWant 14 = .ok (.bipush 6, 2) := dgX6_addWant_9.2.2.2.1
theorem dX6_addWant_16 : decode cX6_addWant 16 = .ok (.if_icmp .lt 6, 3) := dgX6_addWant_9.2.2.2.2.1
theorem dX6_addWant_19 : decode cX6_addWant 19 = .ok (.bipush (-3), 2) := dgX6_addWant_9.2.2.2.2.2.1
theorem dX6_addWant_21 : decode cX6_addWant 21 = .ok (.ireturn, 1) := dgX6_addWant_9.2.2.2.2.2.2.1
theorem dX6_addWant_22 : decode cX6_addWant 22 = .ok (.aload_n 0, 1) := dgX6_addWant_9.2.2.2.2.2.2.2.1
theorem dX6_addWant_23 : decode cX6_addWant 23 = .ok (.getfield 17, 3) := dgX6_addWant_9.2.2.2.2.2.2.2.2.1
theorem dX6_addWant_26 : decode cX6_addWant 26 = .ok (.aload_n 0, 1) := dgX6_addWant_9.2.2.2.2.2.2.2.2.2.1
theorem dX6_addWant_27 : decode cX6_addWant 27 = .ok (.getfield 38, 3) := dgX6_addWant_9.2.2.2.2.2.2.2.2.2.2.1
theorem dX6_addWant_30 : decode cX6_addWant 30 = .ok (.new 9, 3) := dgX6_addWant_9.2.2.2.2.2.2.2.2.2.2.2.1
theorem dgX6_addWant_33 : (decode cX6_addWant 33 = .ok (.dup, 1)) ∧ (decode cX6_addWant 34 = .ok (.iload_n 1, 1)) ∧ (decode cX6_addWant 35 = .ok (.iload_n 2, 1)) ∧ (decode cX6_addWant 36 = .ok (.invokespecial 35, 3)) ∧ (decode cX6_addWant 39 = .ok (.aastore, 1)) ∧ (decode cX6_addWant 40 = .ok (.aload_n 0, 1)) ∧ (decode cX6_addWant 41 = .ok (.dup, 1)) ∧ (decode cX6_addWant 42 = .ok (.getfield 38, 3)) ∧ (decode cX6_addWant 45 = .ok (.iconst 1, 1)) ∧ (decode cX6_addWant 46 = .ok (.iadd, 1)) ∧ (decode cX6_addWant 47 = .ok (.putfield 38, 3)) ∧ (decode cX6_addWant 50 = .ok (.aload_n 0, 1)) ∧ True := dkW [(33, .dup, 1), (34, .iload_n 1, 1), (35, .iload_n 2, 1), (36, .invokespecial 35, 3), (39, .aastore, 1), (40, .aload_n 0, 1), (41, .dup, 1), (42, .getfield 38, 3), (45, .iconst 1, 1), (46, .iadd, 1), (47, .putfield 38, 3), (50, .aload_n 0, 1)] 33 (by decide +kernel)
theorem dX6_addWant_33 : decode cX6_addWant 33 = .ok (.dup, 1) := dgX6_addWant_33.1
theorem dX6_addWant_34 : decode cX6_addWant 34 = .ok (.iload_n 1, 1) := dgX6_addWant_33.2.1
theorem dX6_addWant_35 : decode cX6_addWant 35 = .ok (.iload_n 2, 1) := dgX6_addWant_33.2.2.1
theorem dX6_addWant_36 : decode cX6_addWant 36 = .ok (.invokespecial 35, 3) := dgX6_addWant_33.2.2.2.1
theorem dX6_addWant_39 : decode cX6_addWant 39 = .ok (.aastore, 1) := dgX6_addWant_33.2.2.2.2.1
theorem dX6_addWant_40 : decode cX6_addWant 40 = .ok (.aload_n 0, 1) := dgX6_addWant_33.2.2.2.2.2.1
theorem dX6_addWant_41 : decode cX6_addWant 41 = .ok (.dup, 1) := dgX6_addWant_33.2.2.2.2.2.2.1
theorem dX6_addWant_42 : decode cX6_addWant 42 = .ok (.getfield 38, 3) := dgX6_addWant_33.2.2.2.2.2.2.2.1
theorem dX6_addWant_45 : decode cX6_addWant 45 = .ok (.iconst 1, 1) := dgX6_addWant_33.2.2.2.2.2.2.2.2.1
theorem dX6_addWant_46 : decode cX6_addWant 46 = .ok (.iadd, 1) := dgX6_addWant_33.2.2.2.2.2.2.2.2.2.1
theorem dX6_addWant_47 : decode cX6_addWant 47 = .ok (.putfield 38, 3) := dgX6_addWant_33.2.2.2.2.2.2.2.2.2.2.1
theorem dX6_addWant_50 : decode cX6_addWant 50 = .ok (.aload_n 0, 1) := dgX6_addWant_33.2.2.2.2.2.2.2.2.2.2.2.1
theorem dgX6_addWant_51 : (decode cX6_addWant 51 = .ok (.getfield 38, 3)) ∧ (decode cX6_addWant 54 = .ok (.ireturn, 1)) ∧ True := dkW [(51, .getfield 38, 3), (54, .ireturn, 1)] 51 (by decide +kernel)
theorem dX6_addWant_51 : decode cX6_addWant 51 = .ok (.getfield 38, 3) := dgX6_addWant_51.1
theorem dX6_addWant_54 : decode cX6_addWant 54 = .ok (.ireturn, 1) := dgX6_addWant_51.2.1
abbrev rmX6_addWant : Room := { frames := 2, cells := 1, slots := 3, locals := 43 }
noncomputable def fX6_addWant (N : Nat) (h : Hs) (t : Nat) (p1 : Int32) (p2 : Int32) : Option (Int32 × Hs) :=
  (fX6_isPanel N h p1 p2).bind fun r1 =>
  if r1.1 = 0 then (
  some ((-1), r1.2))
  else (oI 6 5 r1.2 (some t)).bind fun v2 =>
  if v2 < 6 then (
  (oR 6 1 r1.2 (some t)).bind fun o3 =>
  (oI 6 5 r1.2 (some t)).bind fun v4 =>
  (some (nw r1.2 (3, 0))).bind fun h5 =>
  (fX3_init N h5 (sz r1.2) p1 p2).bind fun r6 =>
  (sQ 26 3 r6 o3 v4 (some (sz r1.2))).bind fun h7 =>
  (oI 6 5 h7 (some t)).bind fun v8 =>
  (qI 6 5 h7 (some t) (v8 + 1)).bind fun h9 =>
  (oI 6 5 h9 (some t)).bind fun v10 =>
  some (v10, h9))
  else some ((-3), r1.2)
set_option maxHeartbeats 4000000 in
set_option maxRecDepth 20000 in
theorem kX6_addWant (l : Launch) (G : Gl) {N : Nat} {h : Hs} {t : Nat} {p1 : Int32} {p2 : Int32} {r : Int32 × Hs} (hf : fX6_addWant N h t p1 p2 = some r) : CT l G yX6_addWant cX6_addWant 3 (some .int) rmX6_addWant [.inr (some t), .inl p1, .inl p2] h (some (.inl r.1)) r.2 := by
  refine mk_CT (by decide) (Nat.le_of_ble_eq_true rfl) ?_
  intro p e s m args below meth c C hret hin
  unfold fX6_addWant at hf
  refine r_iload_n C dX6_addWant_0 rfl ?_
  refine r_iload_n C dX6_addWant_1 rfl ?_
  obtain ⟨r1, er1, hf⟩ := bS hf
  refine r_invS1 (As := [.inl p1, .inl p2]) C dX6_addWant_2 mcX6_isPanel wd_890 wd_891 ⟨by decide, by decide⟩ ⟨by decide, by decide⟩ rfl (Nat.le_of_ble_eq_true rfl) (kX6_isPanel l G er1) ?_
  refine r_if_ne (tgt := 10) C dX6_addWant_5 (by decide) (fun hc => ?_) (fun hc => ?_)
  · have hf := ifF hf hc
    refine r_aload_n C dX6_addWant_10 rfl ?_
    obtain ⟨v2, ev2, hf⟩ := bS hf
    refine r_getI C dX6_addWant_11 fl_X6_38 rfl ev2 ?_
    refine r_bipush (v := 6) C dX6_addWant_14 (by decide) ?_
    refine r_icmp_lt (tgt := 22) C dX6_addWant_16 (by decide) (fun hc => ?_) (fun hc => ?_)
    · have hf := ifT hf hc
      refine r_aload_n C dX6_addWant_22 rfl ?_
      obtain ⟨o3, eo3, hf⟩ := bS hf
      refine r_getR C dX6_addWant_23 fl_X6_17 rfl eo3 ?_
      refine r_aload_n C dX6_addWant_26 rfl ?_
      obtain ⟨v4, ev4, hf⟩ := bS hf
      refine r_getI C dX6_addWant_27 fl_X6_38 rfl ev4 ?_
      obtain ⟨h5, eh5, hf⟩ := bS hf
      cases eh5
      refine r_new C dX6_addWant_30 fc_3 wd_90 wd_894 wd_16 (by decide) (by decide) (by decide) ?_
      refine r_dup C dX6_addWant_33 ?_
      refine r_iload_n C dX6_addWant_34 rfl ?_
      refine r_iload_n C dX6_addWant_35 rfl ?_
      obtain ⟨r6, er6, hf⟩ := bS hf
      refine r_invI0 (As := [.inl p1, .inl p2]) C dX6_addWant_36 mcX3_init wd_895 wd_896 rfl ⟨by decide, by decide⟩ ⟨by decide, by decide⟩ rfl (Nat.le_of_ble_eq_true rfl) (kX3_init l G er6) ?_
      obtain ⟨h7, eh7, hf⟩ := bS hf
      refine r_qast (t := 6) (ci := 3) C dX6_addWant_39 (by decide) (by decide) (by decide) rfl rfl eh7 ?_
      refine r_aload_n C dX6_addWant_40 rfl ?_
      refine r_dup C dX6_addWant_41 ?_
      obtain ⟨v8, ev8, hf⟩ := bS hf
      refine r_getI C dX6_addWant_42 fl_X6_38 rfl ev8 ?_
      refine r_iconst (v := 1) C dX6_addWant_45 (by decide) ?_
      refine r_iadd C dX6_addWant_46 ?_
      obtain ⟨h9, eh9, hf⟩ := bS hf
      refine r_putI C dX6_addWant_47 fl_X6_38 (Or.inl fn_6_5) rfl eh9 ?_
      refine r_aload_n C dX6_addWant_50 rfl ?_
      obtain ⟨v10, ev10, hf⟩ := bS hf
      refine r_getI C dX6_addWant_51 fl_X6_38 rfl ev10 ?_
      exact r_iretF C dX6_addWant_54 hret hf (by decide) (by decide)
    · have hf := ifF hf hc
      refine r_bipush (v := -3) C dX6_addWant_19 (by decide) ?_
      exact r_iretF C dX6_addWant_21 hret hf (by decide) (by decide)
  · have hf := ifT hf hc
    refine r_iconst (v := -1) C dX6_addWant_8 (by decide) ?_
    exact r_iretF C dX6_addWant_9 hret hf (by decide) (by decide)

theorem dgJ6_bitCount_0f7a4_0 : (decode cJ6_bitCount_0f7a4 0 = .ok (.iload_n 0, 1)) ∧ (decode cJ6_bitCount_0f7a4 1 = .ok (.iload_n 0, 1)) ∧ (decode cJ6_bitCount_0f7a4 2 = .ok (.iconst 1, 1)) ∧ (decode cJ6_bitCount_0f7a4 3 = .ok (.iushr, 1)) ∧ (decode cJ6_bitCount_0f7a4 4 = .ok (.ldc_w 265, 3)) ∧ (decode cJ6_bitCount_0f7a4 7 = .ok (.iand, 1)) ∧ (decode cJ6_bitCount_0f7a4 8 = .ok (.isub, 1)) ∧ (decode cJ6_bitCount_0f7a4 9 = .ok (.istore_n 0, 1)) ∧ (decode cJ6_bitCount_0f7a4 10 = .ok (.iload_n 0, 1)) ∧ (decode cJ6_bitCount_0f7a4 11 = .ok (.ldc_w 266, 3)) ∧ (decode cJ6_bitCount_0f7a4 14 = .ok (.iand, 1)) ∧ (decode cJ6_bitCount_0f7a4 15 = .ok (.iload_n 0, 1)) ∧ True := dkW [(0, .iload_n 0, 1), (1, .iload_n 0, 1), (2, .iconst 1, 1), (3, .iushr, 1), (4, .ldc_w 265, 3), (7, .iand, 1), (8, .isub, 1), (9, .istore_n 0, 1), (10, .iload_n 0, 1), (11, .ldc_w 266, 3), (14, .iand, 1), (15, .iload_n 0, 1)] 0 (by decide +kernel)
theorem dJ6_bitCount_0f7a4_0 : decode cJ6_bitCount_0f7a4 0 = .ok (.iload_n 0, 1) := dgJ6_bitCount_0f7a4_0.1
theorem dJ6_bitCount_0f7a4_1 : decode cJ6_bitCount_0f7a4 1 = .ok (.iload_n 0, 1) := dgJ6_bitCount_0f7a4_0.2.1
theorem dJ6_bitCount_0f7a4_2 : decode cJ6_bitCount_0f7a4 2 = .ok (.iconst 1, 1) := dgJ6_bitCount_0f7a4_0.2.2.1
theorem dJ6_bitCount_0f7a4_3 : decode cJ6_bitCount_0f7a4 3 = .ok (.iushr, 1) := dgJ6_bitCount_0f7a4_0.2.2.2.1
theorem dJ6_bitCount_0f7a4_4 : decode cJ6_bitCount_0f7a4 4 = .ok (.ldc_w 265, 3) := dgJ6_bitCount_0f7a4_0.2.2.2.2.1
theorem dJ6_bitCount_0f7a4_7 : decode cJ6_bitCount_0f7a4 7 = .ok (.iand, 1) := dgJ6_bitCount_0f7a4_0.2.2.2.2.2.1
theorem dJ6_bitCount_0f7a4_8 : decode cJ6_bitCount_0f7a4 8 = .ok (.isub, 1) := dgJ6_bitCount_0f7a4_0.2.2.2.2.2.2.1
theorem dJ6_bitCount_0f7a4_9 : decode cJ6_bitCount_0f7a4 9 = .ok (.istore_n 0, 1) := dgJ6_bitCount_0f7a4_0.2.2.2.2.2.2.2.1
theorem dJ6_bitCount_0f7a4_10 : decode cJ6_bitCount_0f7a4 10 = .ok (.iload_n 0, 1) := dgJ6_bitCount_0f7a4_0.2.2.2.2.2.2.2.2.1
theorem dJ6_bitCount_0f7a4_11 : decode cJ6_bitCount_0f7a4 11 = .ok (.ldc_w 266, 3) := dgJ6_bitCount_0f7a4_0.2.2.2.2.2.2.2.2.2.1
theorem dJ6_bitCount_0f7a4_14 : decode cJ6_bitCount_0f7a4 14 = .ok (.iand, 1) := dgJ6_bitCount_0f7a4_0.2.2.2.2.2.2.2.2.2.2.1
theorem dJ6_bitCount_0f7a4_15 : decode cJ6_bitCount_0f7a4 15 = .ok (.iload_n 0, 1) := dgJ6_bitCount_0f7a4_0.2.2.2.2.2.2.2.2.2.2.2.1
theorem dgJ6_bitCount_0f7a4_16 : (decode cJ6_bitCount_0f7a4 16 = .ok (.iconst 2, 1)) ∧ (decode cJ6_bitCount_0f7a4 17 = .ok (.iushr, 1)) ∧ (decode cJ6_bitCount_0f7a4 18 = .ok (.ldc_w 266, 3)) ∧ (decode cJ6_bitCount_0f7a4 21 = .ok (.iand, 1)) ∧ (decode cJ6_bitCount_0f7a4 22 = .ok (.iadd, 1)) ∧ (decode cJ6_bitCount_0f7a4 23 = .ok (.istore_n 0, 1)) ∧ (decode cJ6_bitCount_0f7a4 24 = .ok (.iload_n 0, 1)) ∧ (decode cJ6_bitCount_0f7a4 25 = .ok (.iload_n 0, 1)) ∧ (decode cJ6_bitCount_0f7a4 26 = .ok (.iconst 4, 1)) ∧ (decode cJ6_bitCount_0f7a4 27 = .ok (.iushr, 1)) ∧ (decode cJ6_bitCount_0f7a4 28 = .ok (.iadd, 1)) ∧ (decode cJ6_bitCount_0f7a4 29 = .ok (.ldc_w 267, 3)) ∧ True := dkW [(16, .iconst 2, 1), (17, .iushr, 1), (18, .ldc_w 266, 3), (21, .iand, 1), (22, .iadd, 1), (23, .istore_n 0, 1), (24, .iload_n 0, 1), (25, .iload_n 0, 1), (26, .iconst 4, 1), (27, .iushr, 1), (28, .iadd, 1), (29, .ldc_w 267, 3)] 16 (by decide +kernel)
theorem dJ6_bitCount_0f7a4_16 : decode cJ6_bitCount_0f7a4 16 = .ok (.iconst 2, 1) := dgJ6_bitCount_0f7a4_16.1
theorem dJ6_bitCount_0f7a4_17 : decode cJ6_bitCount_0f7a4 17 = .ok (.iushr, 1) := dgJ6_bitCount_0f7a4_16.2.1
theorem dJ6_bitCount_0f7a4_18 : decode cJ6_bitCount_0f7a4 18 = .ok (.ldc_w 266, 3) := dgJ6_bitCount_0f7a4_16.2.2.1
theorem dJ6_bitCount_0f7a4_21 : decode cJ6_bitCount_0f7a4 21 = .ok (.iand, 1) := dgJ6_bitCount_0f7a4_16.2.2.2.1
theorem dJ6_bitCount_0f7a4_22 : decode cJ6_bitCount_0f7a4 22 = .ok (.iadd, 1) := dgJ6_bitCount_0f7a4_16.2.2.2.2.1
theorem dJ6_bitCount_0f7a4_23 : decode cJ6_bitCount_0f7a4 23 = .ok (.istore_n 0, 1) := dgJ6_bitCount_0f7a4_16.2.2.2.2.2.1
theorem dJ6_bitCount_0f7a4_24 : decode cJ6_bitCount_0f7a4 24 = .ok (.iload_n 0, 1) := dgJ6_bitCount_0f7a4_16.2.2.2.2.2.2.1
theorem dJ6_bitCount_0f7a4_25 : decode cJ6_bitCount_0f7a4 25 = .ok (.iload_n 0, 1) := dgJ6_bitCount_0f7a4_16.2.2.2.2.2.2.2.1
theorem dJ6_bitCount_0f7a4_26 : decode cJ6_bitCount_0f7a4 26 = .ok (.iconst 4, 1) := dgJ6_bitCount_0f7a4_16.2.2.2.2.2.2.2.2.1
theorem dJ6_bitCount_0f7a4_27 : decode cJ6_bitCount_0f7a4 27 = .ok (.iushr, 1) := dgJ6_bitCount_0f7a4_16.2.2.2.2.2.2.2.2.2.1
theorem dJ6_bitCount_0f7a4_28 : decode cJ6_bitCount_0f7a4 28 = .ok (.iadd, 1) := dgJ6_bitCount_0f7a4_16.2.2.2.2.2.2.2.2.2.2.1
theorem dJ6_bitCount_0f7a4_29 : decode cJ6_bitCount_0f7a4 29 = .ok (.ldc_w 267, 3) := dgJ6_bitCount_0f7a4_16.2.2.2.2.2.2.2.2.2.2.2.1
theorem dgJ6_bitCount_0f7a4_32 : (decode cJ6_bitCount_0f7a4 32 = .ok (.iand, 1)) ∧ (decode cJ6_bitCount_0f7a4 33 = .ok (.istore_n 0, 1)) ∧ (decode cJ6_bitCount_0f7a4 34 = .ok (.iload_n 0, 1)) ∧ (decode cJ6_bitCount_0f7a4 35 = .ok (.iload_n 0, 1)) ∧ (decode cJ6_bitCount_0f7a4 36 = .ok (.bipush 8, 2)) ∧ (decode cJ6_bitCount_0f7a4 38 = .ok (.iushr, 1)) ∧ (decode cJ6_bitCount_0f7a4 39 = .ok (.iadd, 1)) ∧ (decode cJ6_bitCount_0f7a4 40 = .ok (.istore_n 0, 1)) ∧ (decode cJ6_bitCount_0f7a4 41 = .ok (.iload_n 0, 1)) ∧ (decode cJ6_bitCount_0f7a4 42 = .ok (.iload_n 0, 1)) ∧ (decode cJ6_bitCount_0f7a4 43 = .ok (.bipush 16, 2)) ∧ (decode cJ6_bitCount_0f7a4 45 = .ok (.iushr, 1)) ∧ True := dkW [(32, .iand, 1), (33, .istore_n 0, 1), (34, .iload_n 0, 1), (35, .iload_n 0, 1), (36, .bipush 8, 2), (38, .iushr, 1), (39, .iadd, 1), (40, .istore_n 0, 1), (41, .iload_n 0, 1), (42, .iload_n 0, 1), (43, .bipush 16, 2), (45, .iushr, 1)] 32 (by decide +kernel)
theorem dJ6_bitCount_0f7a4_32 : decode cJ6_bitCount_0f7a4 32 = .ok (.iand, 1) := dgJ6_bitCount_0f7a4_32.1
theorem dJ6_bitCount_0f7a4_33 : decode cJ6_bitCount_0f7a4 33 = .ok (.istore_n 0, 1) := dgJ6_bitCount_0f7a4_32.2.1
theorem dJ6_bitCount_0f7a4_34 : decode cJ6_bitCount_0f7a4 34 = .ok (.iload_n 0, 1) := dgJ6_bitCount_0f7a4_32.2.2.1
theorem dJ6_bitCount_0f7a4_35 : decode cJ6_bitCount_0f7a4 35 = .ok (.iload_n 0, 1) := dgJ6_bitCount_0f7a4_32.2.2.2.1
theorem dJ6_bitCount_0f7a4_36 : decode cJ6_bitCount_0f7a4 36 = .ok (.bipush 8, 2) := dgJ6_bitCount_0f7a4_32.2.2.2.2.1
theorem dJ6_bitCount_0f7a4_38 : decode cJ6_bitCount_0f7a4 38 = .ok (.iushr, 1) := dgJ6_bitCount_0f7a4_32.2.2.2.2.2.1
theorem dJ6_bitCount_0f7a4_39 : decode cJ6_bitCount_0f7a4 39 = .ok (.iadd, 1) := dgJ6_bitCount_0f7a4_32.2.2.2.2.2.2.1
theorem dJ6_bitCount_0f7a4_40 : decode cJ6_bitCount_0f7a4 40 = .ok (.istore_n 0, 1) := dgJ6_bitCount_0f7a4_32.2.2.2.2.2.2.2.1
theorem dJ6_bitCount_0f7a4_41 : decode cJ6_bitCount_0f7a4 41 = .ok (.iload_n 0, 1) := dgJ6_bitCount_0f7a4_32.2.2.2.2.2.2.2.2.1
theorem dJ6_bitCount_0f7a4_42 : decode cJ6_bitCount_0f7a4 42 = .ok (.iload_n 0, 1) := dgJ6_bitCount_0f7a4_32.2.2.2.2.2.2.2.2.2.1
theorem dJ6_bitCount_0f7a4_43 : decode cJ6_bitCount_0f7a4 43 = .ok (.bipush 16, 2) := dgJ6_bitCount_0f7a4_32.2.2.2.2.2.2.2.2.2.2.1
theorem dJ6_bitCount_0f7a4_45 : decode cJ6_bitCount_0f7a4 45 = .ok (.iushr, 1) := dgJ6_bitCount_0f7a4_32.2.2.2.2.2.2.2.2.2.2.2.1
theorem dgJ6_bitCount_0f7a4_46 : (decode cJ6_bitCount_0f7a4 46 = .ok (.iadd, 1)) ∧ (decode cJ6_bitCount_0f7a4 47 = .ok (.istore_n 0, 1)) ∧ (decode cJ6_bitCount_0f7a4 48 = .ok (.iload_n 0, 1)) ∧ (decode cJ6_bitCount_0f7a4 49 = .ok (.bipush 63, 2)) ∧ (decode cJ6_bitCount_0f7a4 51 = .ok (.iand, 1)) ∧ (decode cJ6_bitCount_0f7a4 52 = .ok (.ireturn, 1)) ∧ True := dkW [(46, .iadd, 1), (47, .istore_n 0, 1), (48, .iload_n 0, 1), (49, .bipush 63, 2), (51, .iand, 1), (52, .ireturn, 1)] 46 (by decide +kernel)
theorem dJ6_bitCount_0f7a4_46 : decode cJ6_bitCount_0f7a4 46 = .ok (.iadd, 1) := dgJ6_bitCount_0f7a4_46.1
theorem dJ6_bitCount_0f7a4_47 : decode cJ6_bitCount_0f7a4 47 = .ok (.istore_n 0, 1) := dgJ6_bitCount_0f7a4_46.2.1
theorem dJ6_bitCount_0f7a4_48 : decode cJ6_bitCount_0f7a4 48 = .ok (.iload_n 0, 1) := dgJ6_bitCount_0f7a4_46.2.2.1
theorem dJ6_bitCount_0f7a4_49 : decode cJ6_bitCount_0f7a4 49 = .ok (.bipush 63, 2) := dgJ6_bitCount_0f7a4_46.2.2.2.1
theorem dJ6_bitCount_0f7a4_51 : decode cJ6_bitCount_0f7a4 51 = .ok (.iand, 1) := dgJ6_bitCount_0f7a4_46.2.2.2.2.1
theorem dJ6_bitCount_0f7a4_52 : decode cJ6_bitCount_0f7a4 52 = .ok (.ireturn, 1) := dgJ6_bitCount_0f7a4_46.2.2.2.2.2.1
abbrev rmJ6_bitCount_0f7a4 : Room := { frames := 0, cells := 0, slots := 0, locals := 0 }
noncomputable def fJ6_bitCount_0f7a4 (N : Nat) (h : Hs) (p0 : Int32) : Option (Int32 × Hs) :=
  (some (p0 - ((((p0).toUInt32 >>> ((1 : Int32).toUInt32 &&& Int32.toUInt32 31)).toInt32) &&& 1431655765))).bind fun y1 =>
  (some ((y1 &&& 858993459) + ((((y1).toUInt32 >>> ((2 : Int32).toUInt32 &&& Int32.toUInt32 31)).toInt32) &&& 858993459))).bind fun y2 =>
  (some ((y2 + (((y2).toUInt32 >>> ((4 : Int32).toUInt32 &&& Int32.toUInt32 31)).toInt32)) &&& 252645135)).bind fun y3 =>
  (some (y3 + (((y3).toUInt32 >>> ((8 : Int32).toUInt32 &&& Int32.toUInt32 31)).toInt32))).bind fun y4 =>
  (some (y4 + (((y4).toUInt32 >>> ((16 : Int32).toUInt32 &&& Int32.toUInt32 31)).toInt32))).bind fun y5 =>
  some (y5 &&& 63, h)
set_option maxHeartbeats 4000000 in
set_option maxRecDepth 20000 in
theorem kJ6_bitCount_0f7a4 (l : Launch) (G : Gl) {N : Nat} {h : Hs} {p0 : Int32} {r : Int32 × Hs} (hf : fJ6_bitCount_0f7a4 N h p0 = some r) : CT l G yJ6_bitCount_0f7a4 cJ6_bitCount_0f7a4 1 (some .int) rmJ6_bitCount_0f7a4 [.inl p0] h (some (.inl r.1)) r.2 := by
  refine mk_CT (by decide) (Nat.le_of_ble_eq_true rfl) ?_
  intro p e s m args below meth c C hret hin
  unfold fJ6_bitCount_0f7a4 at hf
  refine r_iload_n C dJ6_bitCount_0f7a4_0 rfl ?_
  refine r_iload_n C dJ6_bitCount_0f7a4_1 rfl ?_
  refine r_iconst (v := 1) C dJ6_bitCount_0f7a4_2 (by decide) ?_
  refine r_iushr C dJ6_bitCount_0f7a4_3 ?_
  refine r_ldcw C dJ6_bitCount_0f7a4_4 wd_933 ?_
  refine r_iand C dJ6_bitCount_0f7a4_7 ?_
  refine r_isub C dJ6_bitCount_0f7a4_8 ?_
  obtain ⟨y1, ey1, hf⟩ := bS hf
  refine r_istore_nE C dJ6_bitCount_0f7a4_9 (by decide) ey1 ?_
  refine r_iload_n C dJ6_bitCount_0f7a4_10 rfl ?_
  refine r_ldcw C dJ6_bitCount_0f7a4_11 wd_934 ?_
  refine r_iand C dJ6_bitCount_0f7a4_14 ?_
  refine r_iload_n C dJ6_bitCount_0f7a4_15 rfl ?_
  refine r_iconst (v := 2) C dJ6_bitCount_0f7a4_16 (by decide) ?_
  refine r_iushr C dJ6_bitCount_0f7a4_17 ?_
  refine r_ldcw C dJ6_bitCount_0f7a4_18 wd_934 ?_
  refine r_iand C dJ6_bitCount_0f7a4_21 ?_
  refine r_iadd C dJ6_bitCount_0f7a4_22 ?_
  obtain ⟨y2, ey2, hf⟩ := bS hf
  refine r_istore_nE C dJ6_bitCount_0f7a4_23 (by decide) ey2 ?_
  refine r_iload_n C dJ6_bitCount_0f7a4_24 rfl ?_
  refine r_iload_n C dJ6_bitCount_0f7a4_25 rfl ?_
  refine r_iconst (v := 4) C dJ6_bitCount_0f7a4_26 (by decide) ?_
  refine r_iushr C dJ6_bitCount_0f7a4_27 ?_
  refine r_iadd C dJ6_bitCount_0f7a4_28 ?_
  refine r_ldcw C dJ6_bitCount_0f7a4_29 wd_935 ?_
  refine r_iand C dJ6_bitCount_0f7a4_32 ?_
  obtain ⟨y3, ey3, hf⟩ := bS hf
  refine r_istore_nE C dJ6_bitCount_0f7a4_33 (by decide) ey3 ?_
  refine r_iload_n C dJ6_bitCount_0f7a4_34 rfl ?_
  refine r_iload_n C dJ6_bitCount_0f7a4_35 rfl ?_
  refine r_bipush (v := 8) C dJ6_bitCount_0f7a4_36 (by decide) ?_
  refine r_iushr C dJ6_bitCount_0f7a4_38 ?_
  refine r_iadd C dJ6_bitCount_0f7a4_39 ?_
  obtain ⟨y4, ey4, hf⟩ := bS hf
  refine r_istore_nE C dJ6_bitCount_0f7a4_40 (by decide) ey4 ?_
  refine r_iload_n C dJ6_bitCount_0f7a4_41 rfl ?_
  refine r_iload_n C dJ6_bitCount_0f7a4_42 rfl ?_
  refine r_bipush (v := 16) C dJ6_bitCount_0f7a4_43 (by decide) ?_
  refine r_iushr C dJ6_bitCount_0f7a4_45 ?_
  refine r_iadd C dJ6_bitCount_0f7a4_46 ?_
  obtain ⟨y5, ey5, hf⟩ := bS hf
  refine r_istore_nE C dJ6_bitCount_0f7a4_47 (by decide) ey5 ?_
  refine r_iload_n C dJ6_bitCount_0f7a4_48 rfl ?_
  refine r_bipush (v := 63) C dJ6_bitCount_0f7a4_49 (by decide) ?_
  refine r_iand C dJ6_bitCount_0f7a4_51 ?_
  exact r_iretF C dJ6_bitCount_0f7a4_52 hret hf (by decide) (by decide)

theorem dgX6_sumWith_0 : (decode cX6_sumWith 0 = .ok (.iload_n 1, 1)) ∧ (decode cX6_sumWith 1 = .ok (.iconst 1, 1)) ∧ (decode cX6_sumWith 2 = .ok (.iload_n 2, 1)) ∧ (decode cX6_sumWith 3 = .ok (.ishl, 1)) ∧ (decode cX6_sumWith 4 = .ok (.ior, 1)) ∧ (decode cX6_sumWith 5 = .ok (.istore 4, 2)) ∧ (decode cX6_sumWith 7 = .ok (.iload 4, 2)) ∧ (decode cX6_sumWith 9 = .ok (.iload_n 1, 1)) ∧ (decode cX6_sumWith 10 = .ok (.if_icmp .eq 16, 3)) ∧ (decode cX6_sumWith 13 = .ok (.aload_n 0, 1)) ∧ (decode cX6_sumWith 14 = .ok (.getfield 11, 3)) ∧ (decode cX6_sumWith 17 = .ok (.iload_n 2, 1)) ∧ True := dkW [(0, .iload_n 1, 1), (1, .iconst 1, 1), (2, .iload_n 2, 1), (3, .ishl, 1), (4, .ior, 1), (5, .istore 4, 2), (7, .iload 4, 2), (9, .iload_n 1, 1), (10, .if_icmp .eq 16, 3), (13, .aload_n 0, 1), (14, .getfield 11, 3), (17, .iload_n 2, 1)] 0 (by decide +kernel)
theorem dX6_sumWith_0 : decode cX6_sumWith 0 = .ok (.iload_n 1, 1) := dgX6_sumWith_0.1
theorem dX6_sumWith_1 : decode cX6_sumWith 1 = .ok (.iconst 1, 1) := dgX6_sumWith_0.2.1
theorem dX6_sumWith_2 : decode cX6_sumWith 2 = .ok (.iload_n 2, 1) := dgX6_sumWith_0.2.2.1
theorem dX6_sumWith_3 : decode cX6_sumWith 3 = .ok (.ishl, 1) := dgX6_sumWith_0.2.2.2.1
theorem dX6_sumWith_4 : decode cX6_sumWith 4 = .ok (.ior, 1) := dgX6_sumWith_0.2.2.2.2.1
theorem dX6_sumWith_5 : decode cX6_sumWith 5 = .ok (.istore 4, 2) := dgX6_sumWith_0.2.2.2.2.2.1
theorem dX6_sumWith_7 : decode cX6_sumWith 7 = .ok (.iload 4, 2) := dgX6_sumWith_0.2.2.2.2.2.2.1
theorem dX6_sumWith_9 : decode cX6_sumWith 9 = .ok (.iload_n 1, 1) := dgX6_sumWith_0.2.2.2.2.2.2.2.1
theorem dX6_sumWith_10 : decode cX6_sumWith 10 = .ok (.if_icmp .eq 16, 3) := dgX6_sumWith_0.2.2.2.2.2.2.2.2.1
theorem dX6_sumWith_13 : decode cX6_sumWith 13 = .ok (.aload_n 0, 1) := dgX6_sumWith_0.2.2.2.2.2.2.2.2.2.1
theorem dX6_sumWith_14 : decode cX6_sumWith 14 = .ok (.getfield 11, 3) := dgX6_sumWith_0.2.2.2.2.2.2.2.2.2.2.1
theorem dX6_sumWith_17 : decode cX6_sumWith 17 = .ok (.iload_n 2, 1) := dgX6_sumWith_0.2.2.2.2.2.2.2.2.2.2.2.1
theorem dgX6_sumWith_18 : (decode cX6_sumWith 18 = .ok (.aaload, 1)) ∧ (decode cX6_sumWith 19 = .ok (.aload_n 3, 1)) ∧ (decode cX6_sumWith 20 = .ok (.invokevirtual 73, 3)) ∧ (decode cX6_sumWith 23 = .ok (.ifCond .ne 6, 3)) ∧ (decode cX6_sumWith 26 = .ok (.ldc 45, 2)) ∧ (decode cX6_sumWith 28 = .ok (.ireturn, 1)) ∧ (decode cX6_sumWith 29 = .ok (.ldc 45, 2)) ∧ (decode cX6_sumWith 31 = .ok (.aload_n 0, 1)) ∧ (decode cX6_sumWith 32 = .ok (.getfield 11, 3)) ∧ (decode cX6_sumWith 35 = .ok (.iload_n 2, 1)) ∧ (decode cX6_sumWith 36 = .ok (.aaload, 1)) ∧ (decode cX6_sumWith 37 = .ok (.aload_n 3, 1)) ∧ True := dkW [(18, .aaload, 1), (19, .aload_n 3, 1), (20, .invokevirtual 73, 3), (23, .ifCond .ne 6, 3), (26, .ldc 45, 2), (28, .ireturn, 1), (29, .ldc 45, 2), (31, .aload_n 0, 1), (32, .getfield 11, 3), (35, .iload_n 2, 1), (36, .aaload, 1), (37, .aload_n 3, 1)] 18 (by decide +kernel)
theorem dX6_sumWith_18 : decode cX6_sumWith 18 = .ok (.aaload, 1) := dgX6_sumWith_18.1
theorem dX6_sumWith_19 : decode cX6_sumWith 19 = .ok (.aload_n 3, 1) := dgX6_sumWith_18.2.1
theorem dX6_sumWith_20 : decode cX6_sumWith 20 = .ok (.invokevirtual 73, 3) := dgX6_sumWith_18.2.2.1
theorem dX6_sumWith_23 : decode cX6_sumWith 23 = .ok (.ifCond .ne 6, 3) := dgX6_sumWith_18.2.2.2.1
theorem dX6_sumWith_26 : decode cX6_sumWith 26 = .ok (.ldc 45, 2) := dgX6_sumWith_18.2.2.2.2.1
theorem dX6_sumWith_28 : decode cX6_sumWith 28 = .ok (.ireturn, 1) := dgX6_sumWith_18.2.2.2.2.2.1
theorem dX6_sumWith_29 : decode cX6_sumWith 29 = .ok (.ldc 45, 2) := dgX6_sumWith_18.2.2.2.2.2.2.1
theorem dX6_sumWith_31 : decode cX6_sumWith 31 = .ok (.aload_n 0, 1) := dgX6_sumWith_18.2.2.2.2.2.2.2.1
theorem dX6_sumWith_32 : decode cX6_sumWith 32 = .ok (.getfield 11, 3) := dgX6_sumWith_18.2.2.2.2.2.2.2.2.1
theorem dX6_sumWith_35 : decode cX6_sumWith 35 = .ok (.iload_n 2, 1) := dgX6_sumWith_18.2.2.2.2.2.2.2.2.2.1
theorem dX6_sumWith_36 : decode cX6_sumWith 36 = .ok (.aaload, 1) := dgX6_sumWith_18.2.2.2.2.2.2.2.2.2.2.1
theorem dX6_sumWith_37 : decode cX6_sumWith 37 = .ok (.aload_n 3, 1) := dgX6_sumWith_18.2.2.2.2.2.2.2.2.2.2.2.1
theorem dgX6_sumWith_38 : (decode cX6_sumWith 38 = .ok (.invokevirtual 77, 3)) ∧ (decode cX6_sumWith 41 = .ok (.aload_n 0, 1)) ∧ (decode cX6_sumWith 42 = .ok (.getfield 24, 3)) ∧ (decode cX6_sumWith 45 = .ok (.iload 4, 2)) ∧ (decode cX6_sumWith 47 = .ok (.iaload, 1)) ∧ (decode cX6_sumWith 48 = .ok (.iadd, 1)) ∧ (decode cX6_sumWith 49 = .ok (.invokestatic 67, 3)) ∧ (decode cX6_sumWith 52 = .ok (.ireturn, 1)) ∧ True := dkW [(38, .invokevirtual 77, 3), (41, .aload_n 0, 1), (42, .getfield 24, 3), (45, .iload 4, 2), (47, .iaload, 1), (48, .iadd, 1), (49, .invokestatic 67, 3), (52, .ireturn, 1)] 38 (by decide +kernel)
theorem dX6_sumWith_38 : decode cX6_sumWith 38 = .ok (.invokevirtual 77, 3) := dgX6_sumWith_38.1
theorem dX6_sumWith_41 : decode cX6_sumWith 41 = .ok (.aload_n 0, 1) := dgX6_sumWith_38.2.1
theorem dX6_sumWith_42 : decode cX6_sumWith 42 = .ok (.getfield 24, 3) := dgX6_sumWith_38.2.2.1
theorem dX6_sumWith_45 : decode cX6_sumWith 45 = .ok (.iload 4, 2) := dgX6_sumWith_38.2.2.2.1
theorem dX6_sumWith_47 : decode cX6_sumWith 47 = .ok (.iaload, 1) := dgX6_sumWith_38.2.2.2.2.1
theorem dX6_sumWith_48 : decode cX6_sumWith 48 = .ok (.iadd, 1) := dgX6_sumWith_38.2.2.2.2.2.1
theorem dX6_sumWith_49 : decode cX6_sumWith 49 = .ok (.invokestatic 67, 3) := dgX6_sumWith_38.2.2.2.2.2.2.1
theorem dX6_sumWith_52 : decode cX6_sumWith 52 = .ok (.ireturn, 1) := dgX6_sumWith_38.2.2.2.2.2.2.2.1
abbrev rmX6_sumWith : Room := { frames := 2, cells := 0, slots := 0, locals := 42 }
noncomputable def fX6_sumWith_b26 (N : Nat)  (t : Nat) (h : Hs)  : Option (Int32 × Hs) :=
  some (1000000, h)
set_option maxHeartbeats 4000000 in
set_option maxRecDepth 20000 in
theorem wX6_sumWith_b26 {p : Program} {l : Launch} {e : Env} {s : State} {m : MethodId} {args : Array Value} {below : List Frame} {meth : Method} {c : Code} {G : Gl} {N : Nat} {h : Hs} {r : Int32 × Hs}  {t : Nat}  (C : Cx p s m args meth c cX6_sumWith RX6 5 G) (hret : meth.sig.returnType = (some .int))  (hf : fX6_sumWith_b26 N  t h  = some r) : V p l e rmX6_sumWith s m args below meth c G 5 (MQ below (QcG G (some (.inl r.1)) r.2) args s rmX6_sumWith.cells rmX6_sumWith.slots (AG G)) h 0 0 26 [some (.inr (some t)), none, none, none, none] [] := by
  unfold fX6_sumWith_b26 at hf
  refine r_ldc C dX6_sumWith_26 wd_925 ?_
  exact r_iretF C dX6_sumWith_28 hret hf (by decide) (by decide)
noncomputable def fX6_sumWith (N : Nat) (h : Hs) (t : Nat) (p1 : Int32) (p2 : Int32) (p3 : Option Nat) : Option (Int32 × Hs) :=
  (some (p1 ||| (1 <<< (p2 &&& 31)))).bind fun y1 =>
  if y1 = p1 then (
  fX6_sumWith_b26 N t h)
  else (oR 6 0 h (some t)).bind fun o2 =>
  (lQ 26 h o2 p2).bind fun o3 =>
  (rc 3 h o3).bind fun a5 =>
  (fX3_serves N h a5 p3).bind fun r4 =>
  if r4.1 = 0 then (
  fX6_sumWith_b26 N t r4.2)
  else (oR 6 0 r4.2 (some t)).bind fun o6 =>
  (lQ 26 r4.2 o6 p2).bind fun o7 =>
  (rc 3 r4.2 o7).bind fun a9 =>
  (fX3_priceFor N r4.2 a9 p3).bind fun r8 =>
  (oR 6 3 r8.2 (some t)).bind fun o10 =>
  (lA 20 r8.2 o10 y1).bind fun v11 =>
  some ((if r8.1 + v11 < 1000000 then r8.1 + v11 else 1000000 : Int32), r8.2)
set_option maxHeartbeats 4000000 in
set_option maxRecDepth 20000 in
theorem kX6_sumWith (l : Launch) (G : Gl) {N : Nat} {h : Hs} {t : Nat} {p1 : Int32} {p2 : Int32} {p3 : Option Nat} {r : Int32 × Hs} (hf : fX6_sumWith N h t p1 p2 p3 = some r) : CT l G yX6_sumWith cX6_sumWith 5 (some .int) rmX6_sumWith [.inr (some t), .inl p1, .inl p2, .inr p3] h (some (.inl r.1)) r.2 := by
  refine mk_CT (by decide) (Nat.le_of_ble_eq_true rfl) ?_
  intro p e s m args below meth c C hret hin
  unfold fX6_sumWith at hf
  refine r_iload_n C dX6_sumWith_0 rfl ?_
  refine r_iconst (v := 1) C dX6_sumWith_1 (by decide) ?_
  refine r_iload_n C dX6_sumWith_2 rfl ?_
  refine r_ishl C dX6_sumWith_3 ?_
  refine r_ior C dX6_sumWith_4 ?_
  obtain ⟨y1, ey1, hf⟩ := bS hf
  refine r_istoreE C dX6_sumWith_5 (by decide) ey1 ?_
  refine r_iload C dX6_sumWith_7 rfl ?_
  refine r_iload_n C dX6_sumWith_9 rfl ?_
  refine r_icmp_eq (tgt := 26) C dX6_sumWith_10 (by decide) (fun hc => ?_) (fun hc => ?_)
  · have hf := ifT hf hc
    exact V.sub (wX6_sumWith_b26 C hret hf) (LW_s rfl (LW_n (LW_n (LW_n (LW_n (LW_e))))))
  · have hf := ifF hf hc
    refine r_aload_n C dX6_sumWith_13 rfl ?_
    obtain ⟨o2, eo2, hf⟩ := bS hf
    refine r_getR C dX6_sumWith_14 fl_X6_11 rfl eo2 ?_
    refine r_iload_n C dX6_sumWith_17 rfl ?_
    obtain ⟨o3, eo3, hf⟩ := bS hf
    refine r_qald (t := 6) C dX6_sumWith_18 (by decide) (by decide) rfl eo3 ?_
    refine r_aload_n C dX6_sumWith_19 rfl ?_
    obtain ⟨a5, ea5, hf⟩ := bS hf
    obtain ⟨r4, er4, hf⟩ := bS hf
    refine r_invV1 (As := [.inr p3]) (ci := 3) C dX6_sumWith_20 mcX3_serves wd_944 wd_945 wd_946 rfl rfl (by decide) ⟨by decide, by decide⟩ ⟨by decide, by decide⟩ rfl (Nat.le_of_ble_eq_true rfl) ea5 (kX3_serves l G er4) ?_
    refine r_if_ne (tgt := 29) C dX6_sumWith_23 (by decide) (fun hc => ?_) (fun hc => ?_)
    · have hf := ifF hf hc
      refine r_ldc C dX6_sumWith_29 wd_925 ?_
      refine r_aload_n C dX6_sumWith_31 rfl ?_
      obtain ⟨o6, eo6, hf⟩ := bS hf
      refine r_getR C dX6_sumWith_32 fl_X6_11 rfl eo6 ?_
      refine r_iload_n C dX6_sumWith_35 rfl ?_
      obtain ⟨o7, eo7, hf⟩ := bS hf
      refine r_qald (t := 6) C dX6_sumWith_36 (by decide) (by decide) rfl eo7 ?_
      refine r_aload_n C dX6_sumWith_37 rfl ?_
      obtain ⟨a9, ea9, hf⟩ := bS hf
      obtain ⟨r8, er8, hf⟩ := bS hf
      refine r_invV1 (As := [.inr p3]) (ci := 3) C dX6_sumWith_38 mcX3_priceFor wd_948 wd_949 wd_950 rfl rfl (by decide) ⟨by decide, by decide⟩ ⟨by decide, by decide⟩ rfl (Nat.le_of_ble_eq_true rfl) ea9 (kX3_priceFor l G er8) ?_
      refine r_aload_n C dX6_sumWith_41 rfl ?_
      obtain ⟨o10, eo10, hf⟩ := bS hf
      refine r_getR C dX6_sumWith_42 fl_X6_24 rfl eo10 ?_
      refine r_iload C dX6_sumWith_45 rfl ?_
      obtain ⟨v11, ev11, hf⟩ := bS hf
      refine r_iald C dX6_sumWith_47 ev11 ?_
      refine r_iadd C dX6_sumWith_48 ?_
      refine r_mmin C dX6_sumWith_49 ⟨wd_956, wd_634, wd_14, wd_635⟩ (by decide) (Nat.le_of_ble_eq_true rfl) (by decide) (by decide) ?_
      exact r_iretF C dX6_sumWith_52 hret hf (by decide) (by decide)
    · have hf := ifT hf hc
      exact V.sub (wX6_sumWith_b26 C hret hf) (LW_s rfl (LW_n (LW_n (LW_n (LW_n (LW_e))))))
