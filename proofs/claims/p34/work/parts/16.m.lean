theorem dgX8_readLines_0 : (decode cX8_readLines 0 = .ok (.aload_n 0, 1)) ∧ (decode cX8_readLines 1 = .ok (.iconst 0, 1)) ∧ (decode cX8_readLines 2 = .ok (.putfield 32, 3)) ∧ (decode cX8_readLines 5 = .ok (.aload_n 0, 1)) ∧ (decode cX8_readLines 6 = .ok (.iconst 0, 1)) ∧ (decode cX8_readLines 7 = .ok (.putfield 35, 3)) ∧ (decode cX8_readLines 10 = .ok (.aload_n 0, 1)) ∧ (decode cX8_readLines 11 = .ok (.getfield 35, 3)) ∧ (decode cX8_readLines 14 = .ok (.bipush 30, 2)) ∧ (decode cX8_readLines 16 = .ok (.if_icmp .ge 14, 3)) ∧ (decode cX8_readLines 19 = .ok (.aload_n 0, 1)) ∧ (decode cX8_readLines 20 = .ok (.aload_n 0, 1)) ∧ True := dkW [(0, .aload_n 0, 1), (1, .iconst 0, 1), (2, .putfield 32, 3), (5, .aload_n 0, 1), (6, .iconst 0, 1), (7, .putfield 35, 3), (10, .aload_n 0, 1), (11, .getfield 35, 3), (14, .bipush 30, 2), (16, .if_icmp .ge 14, 3), (19, .aload_n 0, 1), (20, .aload_n 0, 1)] 0 (by decide +kernel)
theorem dX8_readLines_0 : decode cX8_readLines 0 = .ok (.aload_n 0, 1) := dgX8_readLines_0.1
theorem dX8_readLines_1 : decode cX8_readLines 1 = .ok (.iconst 0, 1) := dgX8_readLines_0.2.1
theorem dX8_readLines_2 : decode cX8_readLines 2 = .ok (.putfield 32, 3) := dgX8_readLines_0.2.2.1
theorem dX8_readLines_5 : decode cX8_readLines 5 = .ok (.aload_n 0, 1) := dgX8_readLines_0.2.2.2.1
theorem dX8_readLines_6 : decode cX8_readLines 6 = .ok (.iconst 0, 1) := dgX8_readLines_0.2.2.2.2.1
theorem dX8_readLines_7 : decode cX8_readLines 7 = .ok (.putfield 35, 3) := dgX8_readLines_0.2.2.2.2.2.1
theorem dX8_readLines_10 : decode cX8_readLines 10 = .ok (.aload_n 0, 1) := dgX8_readLines_0.2.2.2.2.2.2.1
theorem dX8_readLines_11 : decode cX8_readLines 11 = .ok (.getfield 35, 3) := dgX8_readLines_0.2.2.2.2.2.2.2.1
theorem dX8_readLines_14 : decode cX8_readLines 14 = .ok (.bipush 30, 2) := dgX8_readLines_0.2.2.2.2.2.2.2.2.1
theorem dX8_readLines_16 : decode cX8_readLines 16 = .ok (.if_icmp .ge 14, 3) := dgX8_readLines_0.2.2.2.2.2.2.2.2.2.1
theorem dX8_readLines_19 : decode cX8_readLines 19 = .ok (.aload_n 0, 1) := dgX8_readLines_0.2.2.2.2.2.2.2.2.2.2.1
theorem dX8_readLines_20 : decode cX8_readLines 20 = .ok (.aload_n 0, 1) := dgX8_readLines_0.2.2.2.2.2.2.2.2.2.2.2.1
theorem dgX8_readLines_21 : (decode cX8_readLines 21 = .ok (.getfield 35, 3)) ∧ (decode cX8_readLines 24 = .ok (.invokevirtual 38, 3)) ∧ (decode cX8_readLines 27 = .ok (.ifCond .ne 8, 3)) ∧ (decode cX8_readLines 30 = .ok (.aload_n 0, 1)) ∧ (decode cX8_readLines 31 = .ok (.getfield 32, 3)) ∧ (decode cX8_readLines 34 = .ok (.ireturn, 1)) ∧ (decode cX8_readLines 35 = .ok (.aload_n 0, 1)) ∧ (decode cX8_readLines 36 = .ok (.dup, 1)) ∧ (decode cX8_readLines 37 = .ok (.getfield 35, 3)) ∧ (decode cX8_readLines 40 = .ok (.iconst 1, 1)) ∧ (decode cX8_readLines 41 = .ok (.iadd, 1)) ∧ (decode cX8_readLines 42 = .ok (.putfield 35, 3)) ∧ True := dkW [(21, .getfield 35, 3), (24, .invokevirtual 38, 3), (27, .ifCond .ne 8, 3), (30, .aload_n 0, 1), (31, .getfield 32, 3), (34, .ireturn, 1), (35, .aload_n 0, 1), (36, .dup, 1), (37, .getfield 35, 3), (40, .iconst 1, 1), (41, .iadd, 1), (42, .putfield 35, 3)] 21 (by decide +kernel)
theorem dX8_readLines_21 : decode cX8_readLines 21 = .ok (.getfield 35, 3) := dgX8_readLines_21.1
theorem dX8_readLines_24 : decode cX8_readLines 24 = .ok (.invokevirtual 38, 3) := dgX8_readLines_21.2.1
theorem dX8_readLines_27 : decode cX8_readLines 27 = .ok (.ifCond .ne 8, 3) := dgX8_readLines_21.2.2.1
theorem dX8_readLines_30 : decode cX8_readLines 30 = .ok (.aload_n 0, 1) := dgX8_readLines_21.2.2.2.1
theorem dX8_readLines_31 : decode cX8_readLines 31 = .ok (.getfield 32, 3) := dgX8_readLines_21.2.2.2.2.1
theorem dX8_readLines_34 : decode cX8_readLines 34 = .ok (.ireturn, 1) := dgX8_readLines_21.2.2.2.2.2.1
theorem dX8_readLines_35 : decode cX8_readLines 35 = .ok (.aload_n 0, 1) := dgX8_readLines_21.2.2.2.2.2.2.1
theorem dX8_readLines_36 : decode cX8_readLines 36 = .ok (.dup, 1) := dgX8_readLines_21.2.2.2.2.2.2.2.1
theorem dX8_readLines_37 : decode cX8_readLines 37 = .ok (.getfield 35, 3) := dgX8_readLines_21.2.2.2.2.2.2.2.2.1
theorem dX8_readLines_40 : decode cX8_readLines 40 = .ok (.iconst 1, 1) := dgX8_readLines_21.2.2.2.2.2.2.2.2.2.1
theorem dX8_readLines_41 : decode cX8_readLines 41 = .ok (.iadd, 1) := dgX8_readLines_21.2.2.2.2.2.2.2.2.2.2.1
theorem dX8_readLines_42 : decode cX8_readLines 42 = .ok (.putfield 35, 3) := dgX8_readLines_21.2.2.2.2.2.2.2.2.2.2.2.1
theorem dgX8_readLines_45 : (decode cX8_readLines 45 = .ok (.aload_n 0, 1)) ∧ (decode cX8_readLines 46 = .ok (.getfield 32, 3)) ∧ (decode cX8_readLines 49 = .ok (.aload_n 0, 1)) ∧ (decode cX8_readLines 50 = .ok (.getfield 28, 3)) ∧ (decode cX8_readLines 53 = .ok (.if_icmp .lt (-43), 3)) ∧ True := dkW [(45, .aload_n 0, 1), (46, .getfield 32, 3), (49, .aload_n 0, 1), (50, .getfield 28, 3), (53, .if_icmp .lt (-43), 3)] 45 (by decide +kernel)
theorem dX8_readLines_45 : decode cX8_readLines 45 = .ok (.aload_n 0, 1) := dgX8_readLines_45.1
theorem dX8_readLines_46 : decode cX8_readLines 46 = .ok (.getfield 32, 3) := dgX8_readLines_45.2.1
theorem dX8_readLines_49 : decode cX8_readLines 49 = .ok (.aload_n 0, 1) := dgX8_readLines_45.2.2.1
theorem dX8_readLines_50 : decode cX8_readLines 50 = .ok (.getfield 28, 3) := dgX8_readLines_45.2.2.2.1
theorem dX8_readLines_53 : decode cX8_readLines 53 = .ok (.if_icmp .lt (-43), 3) := dgX8_readLines_45.2.2.2.2.1
theorem dX8_readLines_56 : decode cX8_readLines 56 = .ok (.iconst (-1), 1) := by decide +kernel
theorem dgX8_readLines_57 : (decode cX8_readLines 57 = .ok (.ireturn, 1)) ∧ True := dkW [(57, .ireturn, 1)] 57 (by decide +kernel)
theorem dX8_readLines_57 : decode cX8_readLines 57 = .ok (.ireturn, 1) := dgX8_readLines_57.1
abbrev rmX8_readLines : Room := { frames := 5, cells := 0, slots := 0, locals := 108 }
noncomputable def fX8_readLines_b30 (N : Nat)  (t : Nat) (h : Hs)  : Option (Int32 × Hs) :=
  (oI 8 6 h (some t)).bind fun v1 =>
  some (v1, h)
set_option maxHeartbeats 4000000 in
set_option maxRecDepth 20000 in
theorem wX8_readLines_b30 {p : Program} {l : Launch} {e : Env} {s : State} {m : MethodId} {args : Array Value} {below : List Frame} {meth : Method} {c : Code} {G : Gl} {N : Nat} {h : Hs} {r : Int32 × Hs}  {t : Nat}  (C : Cx p s m args meth c cX8_readLines RX8 1 G) (hret : meth.sig.returnType = (some .int))  (hf : fX8_readLines_b30 N  t h  = some r) : V p l e rmX8_readLines s m args below meth c G 1 (MQ below (QcG G (some (.inl r.1)) r.2) args s rmX8_readLines.cells rmX8_readLines.slots (AG G)) h 0 0 30 [some (.inr (some t))] [] := by
  unfold fX8_readLines_b30 at hf
  refine r_aload_n C dX8_readLines_30 rfl ?_
  obtain ⟨v1, ev1, hf⟩ := bS hf
  refine r_getI C dX8_readLines_31 fl_X8_32 rfl ev1 ?_
  exact r_iretF C dX8_readLines_34 hret hf (by decide) (by decide)
noncomputable def fX8_readLines_b10_body (N : Nat)  (g10 : Hs → Option (Int32 × Hs)) (t : Nat) (h : Hs)  : Option (Int32 × Hs) :=
  (oI 8 5 h (some t)).bind fun v1 =>
  if 30 ≤ v1 then (
  fX8_readLines_b30 N t h)
  else (oI 8 5 h (some t)).bind fun v2 =>
  (rc 8 h (some t)).bind fun a4 =>
  (fX8_readLine N h a4 v2).bind fun r3 =>
  if r3.1 = 0 then (
  fX8_readLines_b30 N t r3.2)
  else (oI 8 5 r3.2 (some t)).bind fun v5 =>
  (qI 8 5 r3.2 (some t) (v5 + 1)).bind fun h6 =>
  (oI 8 6 h6 (some t)).bind fun v7 =>
  (oI 8 4 h6 (some t)).bind fun v8 =>
  if v7 < v8 then (
  g10 h6)
  else some ((-1), h6)
noncomputable def fX8_readLines_b10 (N : Nat)  (t : Nat) (n : Nat) : Hs → Option (Int32 × Hs) := lp (fun _  => none) (fun g h  => fX8_readLines_b10_body N  g t h ) n
set_option maxHeartbeats 4000000 in
set_option maxRecDepth 20000 in
theorem wX8_readLines_b10_body {p : Program} {l : Launch} {e : Env} {s : State} {m : MethodId} {args : Array Value} {below : List Frame} {meth : Method} {c : Code} {G : Gl} {N : Nat} {h : Hs} {r : Int32 × Hs}  {g10 : Hs → Option (Int32 × Hs)} {t : Nat}  (C : Cx p s m args meth c cX8_readLines RX8 1 G) (hret : meth.sig.returnType = (some .int))  (hg10 : ∀ (h : Hs) , g10 h  = some r → V p l e rmX8_readLines s m args below meth c G 1 (MQ below (QcG G (some (.inl r.1)) r.2) args s rmX8_readLines.cells rmX8_readLines.slots (AG G)) h 0 0 10 [some (.inr (some t))] []) (hf : fX8_readLines_b10_body N  g10 t h  = some r) : V p l e rmX8_readLines s m args below meth c G 1 (MQ below (QcG G (some (.inl r.1)) r.2) args s rmX8_readLines.cells rmX8_readLines.slots (AG G)) h 0 0 10 [some (.inr (some t))] [] := by
  unfold fX8_readLines_b10_body at hf
  refine r_aload_n C dX8_readLines_10 rfl ?_
  obtain ⟨v1, ev1, hf⟩ := bS hf
  refine r_getI C dX8_readLines_11 fl_X8_35 rfl ev1 ?_
  refine r_bipush (v := 30) C dX8_readLines_14 (by decide) ?_
  refine r_icmp_ge (tgt := 30) C dX8_readLines_16 (by decide) (fun hc => ?_) (fun hc => ?_)
  · have hf := ifT hf hc
    exact V.sub (wX8_readLines_b30 C hret hf) (LW_s rfl (LW_e))
  · have hf := ifF hf hc
    refine r_aload_n C dX8_readLines_19 rfl ?_
    refine r_aload_n C dX8_readLines_20 rfl ?_
    obtain ⟨v2, ev2, hf⟩ := bS hf
    refine r_getI C dX8_readLines_21 fl_X8_35 rfl ev2 ?_
    obtain ⟨a4, ea4, hf⟩ := bS hf
    obtain ⟨r3, er3, hf⟩ := bS hf
    refine r_invV1 (As := [.inl v2]) (ci := 8) C dX8_readLines_24 mcX8_readLine wd_797 wd_799 wp_18 rfl rfl (by decide) ⟨by decide, by decide⟩ ⟨by decide, by decide⟩ rfl (Nat.le_of_ble_eq_true rfl) ea4 (kX8_readLine l G er3) ?_
    refine r_if_ne (tgt := 35) C dX8_readLines_27 (by decide) (fun hc => ?_) (fun hc => ?_)
    · have hf := ifF hf hc
      refine r_aload_n C dX8_readLines_35 rfl ?_
      refine r_dup C dX8_readLines_36 ?_
      obtain ⟨v5, ev5, hf⟩ := bS hf
      refine r_getI C dX8_readLines_37 fl_X8_35 rfl ev5 ?_
      refine r_iconst (v := 1) C dX8_readLines_40 (by decide) ?_
      refine r_iadd C dX8_readLines_41 ?_
      obtain ⟨h6, eh6, hf⟩ := bS hf
      refine r_putI C dX8_readLines_42 fl_X8_35 (Or.inl fn_8_5) rfl eh6 ?_
      refine r_aload_n C dX8_readLines_45 rfl ?_
      obtain ⟨v7, ev7, hf⟩ := bS hf
      refine r_getI C dX8_readLines_46 fl_X8_32 rfl ev7 ?_
      refine r_aload_n C dX8_readLines_49 rfl ?_
      obtain ⟨v8, ev8, hf⟩ := bS hf
      refine r_getI C dX8_readLines_50 fl_X8_28 rfl ev8 ?_
      refine r_icmp_lt (tgt := 10) C dX8_readLines_53 (by decide) (fun hc => ?_) (fun hc => ?_)
      · have hf := ifT hf hc
        exact V.sub (hg10 _ hf) (LW_s rfl (LW_e))
      · have hf := ifF hf hc
        refine r_iconst (v := -1) C dX8_readLines_56 (by decide) ?_
        exact r_iretF C dX8_readLines_57 hret hf (by decide) (by decide)
    · have hf := ifT hf hc
      exact V.sub (wX8_readLines_b30 C hret hf) (LW_s rfl (LW_e))
theorem wX8_readLines_b10 {p : Program} {l : Launch} {e : Env} {s : State} {m : MethodId} {args : Array Value} {below : List Frame} {meth : Method} {c : Code} {G : Gl} {N : Nat} {r : Int32 × Hs}  {t : Nat} (C : Cx p s m args meth c cX8_readLines RX8 1 G) (hret : meth.sig.returnType = (some .int))  : ∀ (n : Nat) (h : Hs) , fX8_readLines_b10 N  t n h  = some r → V p l e rmX8_readLines s m args below meth c G 1 (MQ below (QcG G (some (.inl r.1)) r.2) args s rmX8_readLines.cells rmX8_readLines.slots (AG G)) h 0 0 10 [some (.inr (some t))] [] := by
  intro n
  induction n with
  | zero => intro h  hf; exact absurd (show (none : Option (Int32 × Hs)) = some r from hf) (fun q => by cases q)
  | succ n ih => intro h  hf; exact wX8_readLines_b10_body C hret  ih (show fX8_readLines_b10_body N  (fX8_readLines_b10 N  t n) t h  = some r from hf)
noncomputable def fX8_readLines (N : Nat) (h : Hs) (t : Nat)  : Option (Int32 × Hs) :=
  (qI 8 6 h (some t) 0).bind fun h1 =>
  (qI 8 5 h1 (some t) 0).bind fun h2 =>
  fX8_readLines_b10 N t N h2
set_option maxHeartbeats 4000000 in
set_option maxRecDepth 20000 in
theorem kX8_readLines (l : Launch) (G : Gl) {N : Nat} {h : Hs} {t : Nat}  {r : Int32 × Hs} (hf : fX8_readLines N h t  = some r) : CT l G yX8_readLines cX8_readLines 1 (some .int) rmX8_readLines [.inr (some t)] h (some (.inl r.1)) r.2 := by
  refine mk_CT (by decide) (Nat.le_of_ble_eq_true rfl) ?_
  intro p e s m args below meth c C hret hin
  unfold fX8_readLines at hf
  refine r_aload_n C dX8_readLines_0 rfl ?_
  refine r_iconst (v := 0) C dX8_readLines_1 (by decide) ?_
  obtain ⟨h1, eh1, hf⟩ := bS hf
  refine r_putI C dX8_readLines_2 fl_X8_32 (Or.inl fn_8_6) rfl eh1 ?_
  refine r_aload_n C dX8_readLines_5 rfl ?_
  refine r_iconst (v := 0) C dX8_readLines_6 (by decide) ?_
  obtain ⟨h2, eh2, hf⟩ := bS hf
  refine r_putI C dX8_readLines_7 fl_X8_35 (Or.inl fn_8_5) rfl eh2 ?_
  exact V.sub (wX8_readLines_b10 C hret N _ hf) (LW_s rfl (LW_e))

theorem dgX9_tell_0 : (decode cX9_tell 0 = .ok (.iload_n 1, 1)) ∧ True := dkW [(0, .iload_n 1, 1)] 0 (by decide +kernel)
theorem dX9_tell_0 : decode cX9_tell 0 = .ok (.iload_n 1, 1) := dgX9_tell_0.1
theorem dX9_tell_1 : decode cX9_tell 1 = .ok (.tableswitch 115 0 7 #[47, 52, 57, 62, 67, 72, 77, 96], 47) := by decide +kernel
theorem dgX9_tell_48 : (decode cX9_tell 48 = .ok (.aload_n 0, 1)) ∧ (decode cX9_tell 49 = .ok (.getfield 19, 3)) ∧ (decode cX9_tell 52 = .ok (.ireturn, 1)) ∧ (decode cX9_tell 53 = .ok (.aload_n 0, 1)) ∧ (decode cX9_tell 54 = .ok (.getfield 25, 3)) ∧ (decode cX9_tell 57 = .ok (.ireturn, 1)) ∧ (decode cX9_tell 58 = .ok (.aload_n 0, 1)) ∧ (decode cX9_tell 59 = .ok (.getfield 34, 3)) ∧ (decode cX9_tell 62 = .ok (.ireturn, 1)) ∧ (decode cX9_tell 63 = .ok (.aload_n 0, 1)) ∧ (decode cX9_tell 64 = .ok (.getfield 22, 3)) ∧ (decode cX9_tell 67 = .ok (.ireturn, 1)) ∧ True := dkW [(48, .aload_n 0, 1), (49, .getfield 19, 3), (52, .ireturn, 1), (53, .aload_n 0, 1), (54, .getfield 25, 3), (57, .ireturn, 1), (58, .aload_n 0, 1), (59, .getfield 34, 3), (62, .ireturn, 1), (63, .aload_n 0, 1), (64, .getfield 22, 3), (67, .ireturn, 1)] 48 (by decide +kernel)
theorem dX9_tell_48 : decode cX9_tell 48 = .ok (.aload_n 0, 1) := dgX9_tell_48.1
theorem dX9_tell_49 : decode cX9_tell 49 = .ok (.getfield 19, 3) := dgX9_tell_48.2.1
theorem dX9_tell_52 : decode cX9_tell 52 = .ok (.ireturn, 1) := dgX9_tell_48.2.2.1
theorem dX9_tell_53 : decode cX9_tell 53 = .ok (.aload_n 0, 1) := dgX9_tell_48.2.2.2.1
theorem dX9_tell_54 : decode cX9_tell 54 = .ok (.getfield 25, 3) := dgX9_tell_48.2.2.2.2.1
theorem dX9_tell_57 : decode cX9_tell 57 = .ok (.ireturn, 1) := dgX9_tell_48.2.2.2.2.2.1
theorem dX9_tell_58 : decode cX9_tell 58 = .ok (.aload_n 0, 1) := dgX9_tell_48.2.2.2.2.2.2.1
theorem dX9_tell_59 : decode cX9_tell 59 = .ok (.getfield 34, 3) := dgX9_tell_48.2.2.2.2.2.2.2.1
theorem dX9_tell_62 : decode cX9_tell 62 = .ok (.ireturn, 1) := dgX9_tell_48.2.2.2.2.2.2.2.2.1
theorem dX9_tell_63 : decode cX9_tell 63 = .ok (.aload_n 0, 1) := dgX9_tell_48.2.2.2.2.2.2.2.2.2.1
theorem dX9_tell_64 : decode cX9_tell 64 = .ok (.getfield 22, 3) := dgX9_tell_48.2.2.2.2.2.2.2.2.2.2.1
theorem dX9_tell_67 : decode cX9_tell 67 = .ok (.ireturn, 1) := dgX9_tell_48.2.2.2.2.2.2.2.2.2.2.2.1
theorem dgX9_tell_68 : (decode cX9_tell 68 = .ok (.aload_n 0, 1)) ∧ (decode cX9_tell 69 = .ok (.getfield 28, 3)) ∧ (decode cX9_tell 72 = .ok (.ireturn, 1)) ∧ (decode cX9_tell 73 = .ok (.aload_n 0, 1)) ∧ (decode cX9_tell 74 = .ok (.getfield 31, 3)) ∧ (decode cX9_tell 77 = .ok (.ireturn, 1)) ∧ (decode cX9_tell 78 = .ok (.aload_n 0, 1)) ∧ (decode cX9_tell 79 = .ok (.getfield 43, 3)) ∧ (decode cX9_tell 82 = .ok (.ifnonnull 7, 3)) ∧ True := dkW [(68, .aload_n 0, 1), (69, .getfield 28, 3), (72, .ireturn, 1), (73, .aload_n 0, 1), (74, .getfield 31, 3), (77, .ireturn, 1), (78, .aload_n 0, 1), (79, .getfield 43, 3), (82, .ifnonnull 7, 3)] 68 (by decide +kernel)
theorem dX9_tell_68 : decode cX9_tell 68 = .ok (.aload_n 0, 1) := dgX9_tell_68.1
theorem dX9_tell_69 : decode cX9_tell 69 = .ok (.getfield 28, 3) := dgX9_tell_68.2.1
theorem dX9_tell_72 : decode cX9_tell 72 = .ok (.ireturn, 1) := dgX9_tell_68.2.2.1
theorem dX9_tell_73 : decode cX9_tell 73 = .ok (.aload_n 0, 1) := dgX9_tell_68.2.2.2.1
theorem dX9_tell_74 : decode cX9_tell 74 = .ok (.getfield 31, 3) := dgX9_tell_68.2.2.2.2.1
theorem dX9_tell_77 : decode cX9_tell 77 = .ok (.ireturn, 1) := dgX9_tell_68.2.2.2.2.2.1
theorem dX9_tell_78 : decode cX9_tell 78 = .ok (.aload_n 0, 1) := dgX9_tell_68.2.2.2.2.2.2.1
theorem dX9_tell_79 : decode cX9_tell 79 = .ok (.getfield 43, 3) := dgX9_tell_68.2.2.2.2.2.2.2.1
theorem dX9_tell_82 : decode cX9_tell 82 = .ok (.ifnonnull 7, 3) := dgX9_tell_68.2.2.2.2.2.2.2.2.1
theorem dX9_tell_85 : decode cX9_tell 85 = .ok (.iconst (-1), 1) := by decide +kernel
theorem dgX9_tell_86 : (decode cX9_tell 86 = .ok (.goto 10, 3)) ∧ (decode cX9_tell 89 = .ok (.aload_n 0, 1)) ∧ (decode cX9_tell 90 = .ok (.getfield 43, 3)) ∧ (decode cX9_tell 93 = .ok (.getfield 47, 3)) ∧ (decode cX9_tell 96 = .ok (.ireturn, 1)) ∧ (decode cX9_tell 97 = .ok (.aload_n 0, 1)) ∧ (decode cX9_tell 98 = .ok (.getfield 43, 3)) ∧ (decode cX9_tell 101 = .ok (.ifnonnull 7, 3)) ∧ True := dkW [(86, .goto 10, 3), (89, .aload_n 0, 1), (90, .getfield 43, 3), (93, .getfield 47, 3), (96, .ireturn, 1), (97, .aload_n 0, 1), (98, .getfield 43, 3), (101, .ifnonnull 7, 3)] 86 (by decide +kernel)
theorem dX9_tell_86 : decode cX9_tell 86 = .ok (.goto 10, 3) := dgX9_tell_86.1
theorem dX9_tell_89 : decode cX9_tell 89 = .ok (.aload_n 0, 1) := dgX9_tell_86.2.1
theorem dX9_tell_90 : decode cX9_tell 90 = .ok (.getfield 43, 3) := dgX9_tell_86.2.2.1
theorem dX9_tell_93 : decode cX9_tell 93 = .ok (.getfield 47, 3) := dgX9_tell_86.2.2.2.1
theorem dX9_tell_96 : decode cX9_tell 96 = .ok (.ireturn, 1) := dgX9_tell_86.2.2.2.2.1
theorem dX9_tell_97 : decode cX9_tell 97 = .ok (.aload_n 0, 1) := dgX9_tell_86.2.2.2.2.2.1
theorem dX9_tell_98 : decode cX9_tell 98 = .ok (.getfield 43, 3) := dgX9_tell_86.2.2.2.2.2.2.1
theorem dX9_tell_101 : decode cX9_tell 101 = .ok (.ifnonnull 7, 3) := dgX9_tell_86.2.2.2.2.2.2.2.1
theorem dX9_tell_104 : decode cX9_tell 104 = .ok (.iconst (-1), 1) := by decide +kernel
theorem dgX9_tell_105 : (decode cX9_tell 105 = .ok (.goto 10, 3)) ∧ (decode cX9_tell 108 = .ok (.aload_n 0, 1)) ∧ (decode cX9_tell 109 = .ok (.getfield 43, 3)) ∧ (decode cX9_tell 112 = .ok (.getfield 50, 3)) ∧ (decode cX9_tell 115 = .ok (.ireturn, 1)) ∧ (decode cX9_tell 116 = .ok (.bipush (-2), 2)) ∧ (decode cX9_tell 118 = .ok (.ireturn, 1)) ∧ True := dkW [(105, .goto 10, 3), (108, .aload_n 0, 1), (109, .getfield 43, 3), (112, .getfield 50, 3), (115, .ireturn, 1), (116, .bipush (-2), 2), (118, .ireturn, 1)] 105 (by decide +kernel)
theorem dX9_tell_105 : decode cX9_tell 105 = .ok (.goto 10, 3) := dgX9_tell_105.1
theorem dX9_tell_108 : decode cX9_tell 108 = .ok (.aload_n 0, 1) := dgX9_tell_105.2.1
theorem dX9_tell_109 : decode cX9_tell 109 = .ok (.getfield 43, 3) := dgX9_tell_105.2.2.1
theorem dX9_tell_112 : decode cX9_tell 112 = .ok (.getfield 50, 3) := dgX9_tell_105.2.2.2.1
theorem dX9_tell_115 : decode cX9_tell 115 = .ok (.ireturn, 1) := dgX9_tell_105.2.2.2.2.1
theorem dX9_tell_116 : decode cX9_tell 116 = .ok (.bipush (-2), 2) := dgX9_tell_105.2.2.2.2.2.1
theorem dX9_tell_118 : decode cX9_tell 118 = .ok (.ireturn, 1) := dgX9_tell_105.2.2.2.2.2.2.1
abbrev rmX9_tell : Room := { frames := 0, cells := 0, slots := 0, locals := 0 }
noncomputable def fX9_tell_b96 (N : Nat)  (t : Nat) (h : Hs) (u0 : Int32) : Option (Int32 × Hs) :=
  some (u0, h)
set_option maxHeartbeats 4000000 in
set_option maxRecDepth 20000 in
theorem wX9_tell_b96 {p : Program} {l : Launch} {e : Env} {s : State} {m : MethodId} {args : Array Value} {below : List Frame} {meth : Method} {c : Code} {G : Gl} {N : Nat} {h : Hs} {r : Int32 × Hs}  {t : Nat} {u0 : Int32} (C : Cx p s m args meth c cX9_tell RX9 2 G) (hret : meth.sig.returnType = (some .int))  (hf : fX9_tell_b96 N  t h u0 = some r) : V p l e rmX9_tell s m args below meth c G 2 (MQ below (QcG G (some (.inl r.1)) r.2) args s rmX9_tell.cells rmX9_tell.slots (AG G)) h 0 0 96 [some (.inr (some t)), none] [.inl u0] := by
  unfold fX9_tell_b96 at hf
  exact r_iretF C dX9_tell_96 hret hf (by decide) (by decide)
noncomputable def fX9_tell_b115 (N : Nat)  (t : Nat) (h : Hs) (u0 : Int32) : Option (Int32 × Hs) :=
  some (u0, h)
set_option maxHeartbeats 4000000 in
set_option maxRecDepth 20000 in
theorem wX9_tell_b115 {p : Program} {l : Launch} {e : Env} {s : State} {m : MethodId} {args : Array Value} {below : List Frame} {meth : Method} {c : Code} {G : Gl} {N : Nat} {h : Hs} {r : Int32 × Hs}  {t : Nat} {u0 : Int32} (C : Cx p s m args meth c cX9_tell RX9 2 G) (hret : meth.sig.returnType = (some .int))  (hf : fX9_tell_b115 N  t h u0 = some r) : V p l e rmX9_tell s m args below meth c G 2 (MQ below (QcG G (some (.inl r.1)) r.2) args s rmX9_tell.cells rmX9_tell.slots (AG G)) h 0 0 115 [some (.inr (some t)), none] [.inl u0] := by
  unfold fX9_tell_b115 at hf
  exact r_iretF C dX9_tell_115 hret hf (by decide) (by decide)
noncomputable def fX9_tell (N : Nat) (h : Hs) (t : Nat) (p1 : Int32) : Option (Int32 × Hs) :=
  if p1 = 0 then (
  (oI 9 1 h (some t)).bind fun v1 =>
  some (v1, h))
  else if p1 = 1 then (
  (oI 9 2 h (some t)).bind fun v2 =>
  some (v2, h))
  else if p1 = 2 then (
  (oI 9 3 h (some t)).bind fun v3 =>
  some (v3, h))
  else if p1 = 3 then (
  (oI 9 7 h (some t)).bind fun v4 =>
  some (v4, h))
  else if p1 = 4 then (
  (oI 9 4 h (some t)).bind fun v5 =>
  some (v5, h))
  else if p1 = 5 then (
  (oI 9 5 h (some t)).bind fun v6 =>
  some (v6, h))
  else if p1 = 6 then (
  (oR 9 9 h (some t)).bind fun o7 =>
  if o7 = none then (
  fX9_tell_b96 N t h (-1))
  else (oR 9 9 h (some t)).bind fun o8 =>
  (oI 4 0 h o8).bind fun v9 =>
  fX9_tell_b96 N t h v9)
  else if p1 = 7 then (
  (oR 9 9 h (some t)).bind fun o10 =>
  if o10 = none then (
  fX9_tell_b115 N t h (-1))
  else (oR 9 9 h (some t)).bind fun o11 =>
  (oI 4 6 h o11).bind fun v12 =>
  fX9_tell_b115 N t h v12)
  else some ((-2), h)
set_option maxHeartbeats 4000000 in
set_option maxRecDepth 20000 in
theorem kX9_tell (l : Launch) (G : Gl) {N : Nat} {h : Hs} {t : Nat} {p1 : Int32} {r : Int32 × Hs} (hf : fX9_tell N h t p1 = some r) : CT l G yX9_tell cX9_tell 2 (some .int) rmX9_tell [.inr (some t), .inl p1] h (some (.inl r.1)) r.2 := by
  refine mk_CT (by decide) (Nat.le_of_ble_eq_true rfl) ?_
  intro p e s m args below meth c C hret hin
  unfold fX9_tell at hf
  refine r_iload_n C dX9_tell_0 rfl ?_
  by_cases k0 : p1 = 0
  · have hf := ifT hf k0
    refine r_tabIn (tgt := 48) (off := 47) C dX9_tell_1 (by rw [k0]; decide) (by rw [k0]; decide) (by rw [k0]; rfl) (by decide) ?_
    refine r_aload_n C dX9_tell_48 rfl ?_
    obtain ⟨v1, ev1, hf⟩ := bS hf
    refine r_getI C dX9_tell_49 fl_X9_19 rfl ev1 ?_
    exact r_iretF C dX9_tell_52 hret hf (by decide) (by decide)
  · have hf := ifF hf k0
    by_cases k1 : p1 = 1
    · have hf := ifT hf k1
      refine r_tabIn (tgt := 53) (off := 52) C dX9_tell_1 (by rw [k1]; decide) (by rw [k1]; decide) (by rw [k1]; rfl) (by decide) ?_
      refine r_aload_n C dX9_tell_53 rfl ?_
      obtain ⟨v2, ev2, hf⟩ := bS hf
      refine r_getI C dX9_tell_54 fl_X9_25 rfl ev2 ?_
      exact r_iretF C dX9_tell_57 hret hf (by decide) (by decide)
    · have hf := ifF hf k1
      by_cases k2 : p1 = 2
      · have hf := ifT hf k2
        refine r_tabIn (tgt := 58) (off := 57) C dX9_tell_1 (by rw [k2]; decide) (by rw [k2]; decide) (by rw [k2]; rfl) (by decide) ?_
        refine r_aload_n C dX9_tell_58 rfl ?_
        obtain ⟨v3, ev3, hf⟩ := bS hf
        refine r_getI C dX9_tell_59 fl_X9_34 rfl ev3 ?_
        exact r_iretF C dX9_tell_62 hret hf (by decide) (by decide)
      · have hf := ifF hf k2
        by_cases k3 : p1 = 3
        · have hf := ifT hf k3
          refine r_tabIn (tgt := 63) (off := 62) C dX9_tell_1 (by rw [k3]; decide) (by rw [k3]; decide) (by rw [k3]; rfl) (by decide) ?_
          refine r_aload_n C dX9_tell_63 rfl ?_
          obtain ⟨v4, ev4, hf⟩ := bS hf
          refine r_getI C dX9_tell_64 fl_X9_22 rfl ev4 ?_
          exact r_iretF C dX9_tell_67 hret hf (by decide) (by decide)
        · have hf := ifF hf k3
          by_cases k4 : p1 = 4
          · have hf := ifT hf k4
            refine r_tabIn (tgt := 68) (off := 67) C dX9_tell_1 (by rw [k4]; decide) (by rw [k4]; decide) (by rw [k4]; rfl) (by decide) ?_
            refine r_aload_n C dX9_tell_68 rfl ?_
            obtain ⟨v5, ev5, hf⟩ := bS hf
            refine r_getI C dX9_tell_69 fl_X9_28 rfl ev5 ?_
            exact r_iretF C dX9_tell_72 hret hf (by decide) (by decide)
          · have hf := ifF hf k4
            by_cases k5 : p1 = 5
            · have hf := ifT hf k5
              refine r_tabIn (tgt := 73) (off := 72) C dX9_tell_1 (by rw [k5]; decide) (by rw [k5]; decide) (by rw [k5]; rfl) (by decide) ?_
              refine r_aload_n C dX9_tell_73 rfl ?_
              obtain ⟨v6, ev6, hf⟩ := bS hf
              refine r_getI C dX9_tell_74 fl_X9_31 rfl ev6 ?_
              exact r_iretF C dX9_tell_77 hret hf (by decide) (by decide)
            · have hf := ifF hf k5
              by_cases k6 : p1 = 6
              · have hf := ifT hf k6
                refine r_tabIn (tgt := 78) (off := 77) C dX9_tell_1 (by rw [k6]; decide) (by rw [k6]; decide) (by rw [k6]; rfl) (by decide) ?_
                refine r_aload_n C dX9_tell_78 rfl ?_
                obtain ⟨o7, eo7, hf⟩ := bS hf
                refine r_getR C dX9_tell_79 fl_X9_43 rfl eo7 ?_
                refine r_ifnonnull (tgt := 89) C dX9_tell_82 (by decide) (fun hc => ?_) (fun hc => ?_)
                · have hf := ifF hf hc
                  refine r_aload_n C dX9_tell_89 rfl ?_
                  obtain ⟨o8, eo8, hf⟩ := bS hf
                  refine r_getR C dX9_tell_90 fl_X9_43 rfl eo8 ?_
                  obtain ⟨v9, ev9, hf⟩ := bS hf
                  refine r_getI C dX9_tell_93 fl_X9_47 rfl ev9 ?_
                  exact V.sub (wX9_tell_b96 C hret hf) (LW_s rfl (LW_n (LW_e)))
                · have hf := ifT hf hc
                  refine r_iconst (v := -1) C dX9_tell_85 (by decide) ?_
                  refine r_goto (tgt := 96) C dX9_tell_86 (by decide) ?_
                  exact V.sub (wX9_tell_b96 C hret hf) (LW_s rfl (LW_n (LW_e)))
              · have hf := ifF hf k6
                by_cases k7 : p1 = 7
                · have hf := ifT hf k7
                  refine r_tabIn (tgt := 97) (off := 96) C dX9_tell_1 (by rw [k7]; decide) (by rw [k7]; decide) (by rw [k7]; rfl) (by decide) ?_
                  refine r_aload_n C dX9_tell_97 rfl ?_
                  obtain ⟨o10, eo10, hf⟩ := bS hf
                  refine r_getR C dX9_tell_98 fl_X9_43 rfl eo10 ?_
                  refine r_ifnonnull (tgt := 108) C dX9_tell_101 (by decide) (fun hc => ?_) (fun hc => ?_)
                  · have hf := ifF hf hc
                    refine r_aload_n C dX9_tell_108 rfl ?_
                    obtain ⟨o11, eo11, hf⟩ := bS hf
                    refine r_getR C dX9_tell_109 fl_X9_43 rfl eo11 ?_
                    obtain ⟨v12, ev12, hf⟩ := bS hf
                    refine r_getI C dX9_tell_112 fl_X9_50 rfl ev12 ?_
                    exact V.sub (wX9_tell_b115 C hret hf) (LW_s rfl (LW_n (LW_e)))
                  · have hf := ifT hf hc
                    refine r_iconst (v := -1) C dX9_tell_104 (by decide) ?_
                    refine r_goto (tgt := 115) C dX9_tell_105 (by decide) ?_
                    exact V.sub (wX9_tell_b115 C hret hf) (LW_s rfl (LW_n (LW_e)))
                · have hf := ifF hf k7
                  refine r_tabOut (tgt := 116) C dX9_tell_1 (sw_out (lo := 0) (hi := 7) [0, 1, 2, 3, 4, 5, 6, 7] (by decide) (List.forall_mem_cons.mpr ⟨k0, List.forall_mem_cons.mpr ⟨k1, List.forall_mem_cons.mpr ⟨k2, List.forall_mem_cons.mpr ⟨k3, List.forall_mem_cons.mpr ⟨k4, List.forall_mem_cons.mpr ⟨k5, List.forall_mem_cons.mpr ⟨k6, List.forall_mem_cons.mpr ⟨k7, fun _ q => absurd q List.not_mem_nil⟩⟩⟩⟩⟩⟩⟩⟩)) (by decide) ?_
                  refine r_bipush (v := -2) C dX9_tell_116 (by decide) ?_
                  exact r_iretF C dX9_tell_118 hret hf (by decide) (by decide)

theorem dgX9_tellScene_0 : (decode cX9_tellScene 0 = .ok (.iload_n 2, 1)) ∧ True := dkW [(0, .iload_n 2, 1)] 0 (by decide +kernel)
theorem dX9_tellScene_0 : decode cX9_tellScene 0 = .ok (.iload_n 2, 1) := dgX9_tellScene_0.1
theorem dX9_tellScene_1 : decode cX9_tellScene 1 = .ok (.iconst (-1), 1) := by decide +kernel
theorem dgX9_tellScene_2 : (decode cX9_tellScene 2 = .ok (.if_icmp .eq 18, 3)) ∧ (decode cX9_tellScene 5 = .ok (.iload_n 2, 1)) ∧ (decode cX9_tellScene 6 = .ok (.aload_n 0, 1)) ∧ (decode cX9_tellScene 7 = .ok (.getfield 28, 3)) ∧ (decode cX9_tellScene 10 = .ok (.aload_n 0, 1)) ∧ (decode cX9_tellScene 11 = .ok (.getfield 31, 3)) ∧ (decode cX9_tellScene 14 = .ok (.invokestatic 53, 3)) ∧ (decode cX9_tellScene 17 = .ok (.ifCond .eq 7, 3)) ∧ (decode cX9_tellScene 20 = .ok (.iconst 1, 1)) ∧ (decode cX9_tellScene 21 = .ok (.goto 4, 3)) ∧ (decode cX9_tellScene 24 = .ok (.iconst 0, 1)) ∧ (decode cX9_tellScene 25 = .ok (.istore_n 3, 1)) ∧ True := dkW [(2, .if_icmp .eq 18, 3), (5, .iload_n 2, 1), (6, .aload_n 0, 1), (7, .getfield 28, 3), (10, .aload_n 0, 1), (11, .getfield 31, 3), (14, .invokestatic 53, 3), (17, .ifCond .eq 7, 3), (20, .iconst 1, 1), (21, .goto 4, 3), (24, .iconst 0, 1), (25, .istore_n 3, 1)] 2 (by decide +kernel)
theorem dX9_tellScene_2 : decode cX9_tellScene 2 = .ok (.if_icmp .eq 18, 3) := dgX9_tellScene_2.1
theorem dX9_tellScene_5 : decode cX9_tellScene 5 = .ok (.iload_n 2, 1) := dgX9_tellScene_2.2.1
theorem dX9_tellScene_6 : decode cX9_tellScene 6 = .ok (.aload_n 0, 1) := dgX9_tellScene_2.2.2.1
theorem dX9_tellScene_7 : decode cX9_tellScene 7 = .ok (.getfield 28, 3) := dgX9_tellScene_2.2.2.2.1
theorem dX9_tellScene_10 : decode cX9_tellScene 10 = .ok (.aload_n 0, 1) := dgX9_tellScene_2.2.2.2.2.1
theorem dX9_tellScene_11 : decode cX9_tellScene 11 = .ok (.getfield 31, 3) := dgX9_tellScene_2.2.2.2.2.2.1
theorem dX9_tellScene_14 : decode cX9_tellScene 14 = .ok (.invokestatic 53, 3) := dgX9_tellScene_2.2.2.2.2.2.2.1
theorem dX9_tellScene_17 : decode cX9_tellScene 17 = .ok (.ifCond .eq 7, 3) := dgX9_tellScene_2.2.2.2.2.2.2.2.1
theorem dX9_tellScene_20 : decode cX9_tellScene 20 = .ok (.iconst 1, 1) := dgX9_tellScene_2.2.2.2.2.2.2.2.2.1
theorem dX9_tellScene_21 : decode cX9_tellScene 21 = .ok (.goto 4, 3) := dgX9_tellScene_2.2.2.2.2.2.2.2.2.2.1
theorem dX9_tellScene_24 : decode cX9_tellScene 24 = .ok (.iconst 0, 1) := dgX9_tellScene_2.2.2.2.2.2.2.2.2.2.2.1
theorem dX9_tellScene_25 : decode cX9_tellScene 25 = .ok (.istore_n 3, 1) := dgX9_tellScene_2.2.2.2.2.2.2.2.2.2.2.2.1
theorem dgX9_tellScene_26 : (decode cX9_tellScene 26 = .ok (.iload_n 1, 1)) ∧ (decode cX9_tellScene 27 = .ok (.iconst 0, 1)) ∧ (decode cX9_tellScene 28 = .ok (.bipush 9, 2)) ∧ (decode cX9_tellScene 30 = .ok (.invokestatic 53, 3)) ∧ (decode cX9_tellScene 33 = .ok (.ifCond .eq 7, 3)) ∧ (decode cX9_tellScene 36 = .ok (.iload_n 3, 1)) ∧ (decode cX9_tellScene 37 = .ok (.ifCond .ne 6, 3)) ∧ (decode cX9_tellScene 40 = .ok (.bipush (-2), 2)) ∧ (decode cX9_tellScene 42 = .ok (.ireturn, 1)) ∧ (decode cX9_tellScene 43 = .ok (.aload_n 0, 1)) ∧ (decode cX9_tellScene 44 = .ok (.getfield 9, 3)) ∧ (decode cX9_tellScene 47 = .ok (.iload_n 1, 1)) ∧ True := dkW [(26, .iload_n 1, 1), (27, .iconst 0, 1), (28, .bipush 9, 2), (30, .invokestatic 53, 3), (33, .ifCond .eq 7, 3), (36, .iload_n 3, 1), (37, .ifCond .ne 6, 3), (40, .bipush (-2), 2), (42, .ireturn, 1), (43, .aload_n 0, 1), (44, .getfield 9, 3), (47, .iload_n 1, 1)] 26 (by decide +kernel)
theorem dX9_tellScene_26 : decode cX9_tellScene 26 = .ok (.iload_n 1, 1) := dgX9_tellScene_26.1
theorem dX9_tellScene_27 : decode cX9_tellScene 27 = .ok (.iconst 0, 1) := dgX9_tellScene_26.2.1
theorem dX9_tellScene_28 : decode cX9_tellScene 28 = .ok (.bipush 9, 2) := dgX9_tellScene_26.2.2.1
theorem dX9_tellScene_30 : decode cX9_tellScene 30 = .ok (.invokestatic 53, 3) := dgX9_tellScene_26.2.2.2.1
theorem dX9_tellScene_33 : decode cX9_tellScene 33 = .ok (.ifCond .eq 7, 3) := dgX9_tellScene_26.2.2.2.2.1
theorem dX9_tellScene_36 : decode cX9_tellScene 36 = .ok (.iload_n 3, 1) := dgX9_tellScene_26.2.2.2.2.2.1
theorem dX9_tellScene_37 : decode cX9_tellScene 37 = .ok (.ifCond .ne 6, 3) := dgX9_tellScene_26.2.2.2.2.2.2.1
theorem dX9_tellScene_40 : decode cX9_tellScene 40 = .ok (.bipush (-2), 2) := dgX9_tellScene_26.2.2.2.2.2.2.2.1
theorem dX9_tellScene_42 : decode cX9_tellScene 42 = .ok (.ireturn, 1) := dgX9_tellScene_26.2.2.2.2.2.2.2.2.1
theorem dX9_tellScene_43 : decode cX9_tellScene 43 = .ok (.aload_n 0, 1) := dgX9_tellScene_26.2.2.2.2.2.2.2.2.2.1
theorem dX9_tellScene_44 : decode cX9_tellScene 44 = .ok (.getfield 9, 3) := dgX9_tellScene_26.2.2.2.2.2.2.2.2.2.2.1
theorem dX9_tellScene_47 : decode cX9_tellScene 47 = .ok (.iload_n 1, 1) := dgX9_tellScene_26.2.2.2.2.2.2.2.2.2.2.2.1
theorem dgX9_tellScene_48 : (decode cX9_tellScene 48 = .ok (.iaload, 1)) ∧ (decode cX9_tellScene 49 = .ok (.istore 4, 2)) ∧ (decode cX9_tellScene 51 = .ok (.aload_n 0, 1)) ∧ (decode cX9_tellScene 52 = .ok (.getfield 9, 3)) ∧ (decode cX9_tellScene 55 = .ok (.iload_n 1, 1)) ∧ (decode cX9_tellScene 56 = .ok (.iload_n 2, 1)) ∧ (decode cX9_tellScene 57 = .ok (.iastore, 1)) ∧ (decode cX9_tellScene 58 = .ok (.iload 4, 2)) ∧ (decode cX9_tellScene 60 = .ok (.ireturn, 1)) ∧ True := dkW [(48, .iaload, 1), (49, .istore 4, 2), (51, .aload_n 0, 1), (52, .getfield 9, 3), (55, .iload_n 1, 1), (56, .iload_n 2, 1), (57, .iastore, 1), (58, .iload 4, 2), (60, .ireturn, 1)] 48 (by decide +kernel)
theorem dX9_tellScene_48 : decode cX9_tellScene 48 = .ok (.iaload, 1) := dgX9_tellScene_48.1
theorem dX9_tellScene_49 : decode cX9_tellScene 49 = .ok (.istore 4, 2) := dgX9_tellScene_48.2.1
theorem dX9_tellScene_51 : decode cX9_tellScene 51 = .ok (.aload_n 0, 1) := dgX9_tellScene_48.2.2.1
theorem dX9_tellScene_52 : decode cX9_tellScene 52 = .ok (.getfield 9, 3) := dgX9_tellScene_48.2.2.2.1
theorem dX9_tellScene_55 : decode cX9_tellScene 55 = .ok (.iload_n 1, 1) := dgX9_tellScene_48.2.2.2.2.1
theorem dX9_tellScene_56 : decode cX9_tellScene 56 = .ok (.iload_n 2, 1) := dgX9_tellScene_48.2.2.2.2.2.1
theorem dX9_tellScene_57 : decode cX9_tellScene 57 = .ok (.iastore, 1) := dgX9_tellScene_48.2.2.2.2.2.2.1
theorem dX9_tellScene_58 : decode cX9_tellScene 58 = .ok (.iload 4, 2) := dgX9_tellScene_48.2.2.2.2.2.2.2.1
theorem dX9_tellScene_60 : decode cX9_tellScene 60 = .ok (.ireturn, 1) := dgX9_tellScene_48.2.2.2.2.2.2.2.2.1
abbrev rmX9_tellScene : Room := { frames := 1, cells := 0, slots := 0, locals := 22 }
noncomputable def fX9_tellScene_b40 (N : Nat)  (t : Nat) (h : Hs)  : Option (Int32 × Hs) :=
  some ((-2), h)
set_option maxHeartbeats 4000000 in
set_option maxRecDepth 20000 in
theorem wX9_tellScene_b40 {p : Program} {l : Launch} {e : Env} {s : State} {m : MethodId} {args : Array Value} {below : List Frame} {meth : Method} {c : Code} {G : Gl} {N : Nat} {h : Hs} {r : Int32 × Hs}  {t : Nat}  (C : Cx p s m args meth c cX9_tellScene RX9 5 G) (hret : meth.sig.returnType = (some .int))  (hf : fX9_tellScene_b40 N  t h  = some r) : V p l e rmX9_tellScene s m args below meth c G 5 (MQ below (QcG G (some (.inl r.1)) r.2) args s rmX9_tellScene.cells rmX9_tellScene.slots (AG G)) h 0 0 40 [some (.inr (some t)), none, none, none, none] [] := by
  unfold fX9_tellScene_b40 at hf
  refine r_bipush (v := -2) C dX9_tellScene_40 (by decide) ?_
  exact r_iretF C dX9_tellScene_42 hret hf (by decide) (by decide)
noncomputable def fX9_tellScene_b25 (N : Nat)  (t : Nat) (h : Hs) (x1 : Int32) (x2 : Int32) (u0 : Int32) : Option (Int32 × Hs) :=
  (fX11_isWithin N h x1 0 9).bind fun r1 =>
  if r1.1 = 0 then (
  fX9_tellScene_b40 N t r1.2)
  else if u0 = 0 then (
  fX9_tellScene_b40 N t r1.2)
  else (oR 9 6 r1.2 (some t)).bind fun o2 =>
  (lA 20 r1.2 o2 x1).bind fun v3 =>
  (oR 9 6 r1.2 (some t)).bind fun o4 =>
  (sA r1.2 o4 x1 x2).bind fun h5 =>
  some (v3, h5)
set_option maxHeartbeats 4000000 in
set_option maxRecDepth 20000 in
theorem wX9_tellScene_b25 {p : Program} {l : Launch} {e : Env} {s : State} {m : MethodId} {args : Array Value} {below : List Frame} {meth : Method} {c : Code} {G : Gl} {N : Nat} {h : Hs} {r : Int32 × Hs}  {t : Nat} {x1 : Int32} {x2 : Int32} {u0 : Int32} (C : Cx p s m args meth c cX9_tellScene RX9 5 G) (hret : meth.sig.returnType = (some .int))  (hf : fX9_tellScene_b25 N  t h x1 x2 u0 = some r) : V p l e rmX9_tellScene s m args below meth c G 5 (MQ below (QcG G (some (.inl r.1)) r.2) args s rmX9_tellScene.cells rmX9_tellScene.slots (AG G)) h 0 0 25 [some (.inr (some t)), some (.inl x1), some (.inl x2), none, none] [.inl u0] := by
  unfold fX9_tellScene_b25 at hf
  refine r_istore_n C dX9_tellScene_25 (by decide) ?_
  refine r_iload_n C dX9_tellScene_26 rfl ?_
  refine r_iconst (v := 0) C dX9_tellScene_27 (by decide) ?_
  refine r_bipush (v := 9) C dX9_tellScene_28 (by decide) ?_
  obtain ⟨r1, er1, hf⟩ := bS hf
  refine r_invSN1 (As := [.inl x1, .inl 0, .inl 9]) (host := "StageMachine") C dX9_tellScene_30 mcX11_isWithin (by decide) wd_291 ⟨by decide, by decide⟩ ⟨by decide, by decide⟩ rfl (Nat.le_of_ble_eq_true rfl) (kX11_isWithin l G er1) ?_
  refine r_if_eq (tgt := 40) C dX9_tellScene_33 (by decide) (fun hc => ?_) (fun hc => ?_)
  · have hf := ifT hf hc
    exact V.sub (wX9_tellScene_b40 C hret hf) (LW_s rfl (LW_n (LW_n (LW_n (LW_n (LW_e))))))
  · have hf := ifF hf hc
    refine r_iload_n C dX9_tellScene_36 rfl ?_
    refine r_if_ne (tgt := 43) C dX9_tellScene_37 (by decide) (fun hc => ?_) (fun hc => ?_)
    · have hf := ifF hf hc
      refine r_aload_n C dX9_tellScene_43 rfl ?_
      obtain ⟨o2, eo2, hf⟩ := bS hf
      refine r_getR C dX9_tellScene_44 fl_X9_9 rfl eo2 ?_
      refine r_iload_n C dX9_tellScene_47 rfl ?_
      obtain ⟨v3, ev3, hf⟩ := bS hf
      refine r_iald C dX9_tellScene_48 ev3 ?_
      refine r_istore C dX9_tellScene_49 (by decide) ?_
      refine r_aload_n C dX9_tellScene_51 rfl ?_
      obtain ⟨o4, eo4, hf⟩ := bS hf
      refine r_getR C dX9_tellScene_52 fl_X9_9 rfl eo4 ?_
      refine r_iload_n C dX9_tellScene_55 rfl ?_
      refine r_iload_n C dX9_tellScene_56 rfl ?_
      obtain ⟨h5, eh5, hf⟩ := bS hf
      refine r_iast C dX9_tellScene_57 eh5 ?_
      refine r_iload C dX9_tellScene_58 rfl ?_
      exact r_iretF C dX9_tellScene_60 hret hf (by decide) (by decide)
    · have hf := ifT hf hc
      exact V.sub (wX9_tellScene_b40 C hret hf) (LW_s rfl (LW_n (LW_n (LW_n (LW_n (LW_e))))))
noncomputable def fX9_tellScene_b20 (N : Nat)  (t : Nat) (h : Hs) (x1 : Int32) (x2 : Int32) : Option (Int32 × Hs) :=
  fX9_tellScene_b25 N t h x1 x2 1
set_option maxHeartbeats 4000000 in
set_option maxRecDepth 20000 in
theorem wX9_tellScene_b20 {p : Program} {l : Launch} {e : Env} {s : State} {m : MethodId} {args : Array Value} {below : List Frame} {meth : Method} {c : Code} {G : Gl} {N : Nat} {h : Hs} {r : Int32 × Hs}  {t : Nat} {x1 : Int32} {x2 : Int32} (C : Cx p s m args meth c cX9_tellScene RX9 5 G) (hret : meth.sig.returnType = (some .int))  (hf : fX9_tellScene_b20 N  t h x1 x2 = some r) : V p l e rmX9_tellScene s m args below meth c G 5 (MQ below (QcG G (some (.inl r.1)) r.2) args s rmX9_tellScene.cells rmX9_tellScene.slots (AG G)) h 0 0 20 [some (.inr (some t)), some (.inl x1), some (.inl x2), none, none] [] := by
  unfold fX9_tellScene_b20 at hf
  refine r_iconst (v := 1) C dX9_tellScene_20 (by decide) ?_
  refine r_goto (tgt := 25) C dX9_tellScene_21 (by decide) ?_
  exact V.sub (wX9_tellScene_b25 C hret hf) (LW_s rfl (LW_s rfl (LW_s rfl (LW_n (LW_n (LW_e))))))
noncomputable def fX9_tellScene (N : Nat) (h : Hs) (t : Nat) (p1 : Int32) (p2 : Int32) : Option (Int32 × Hs) :=
  if p2 = (-1) then (
  fX9_tellScene_b20 N t h p1 p2)
  else (oI 9 4 h (some t)).bind fun v1 =>
  (oI 9 5 h (some t)).bind fun v2 =>
  (fX11_isWithin N h p2 v1 v2).bind fun r3 =>
  if r3.1 = 0 then (
  fX9_tellScene_b25 N t r3.2 p1 p2 0)
  else fX9_tellScene_b20 N t r3.2 p1 p2
set_option maxHeartbeats 4000000 in
set_option maxRecDepth 20000 in
theorem kX9_tellScene (l : Launch) (G : Gl) {N : Nat} {h : Hs} {t : Nat} {p1 : Int32} {p2 : Int32} {r : Int32 × Hs} (hf : fX9_tellScene N h t p1 p2 = some r) : CT l G yX9_tellScene cX9_tellScene 5 (some .int) rmX9_tellScene [.inr (some t), .inl p1, .inl p2] h (some (.inl r.1)) r.2 := by
  refine mk_CT (by decide) (Nat.le_of_ble_eq_true rfl) ?_
  intro p e s m args below meth c C hret hin
  unfold fX9_tellScene at hf
  refine r_iload_n C dX9_tellScene_0 rfl ?_
  refine r_iconst (v := -1) C dX9_tellScene_1 (by decide) ?_
  refine r_icmp_eq (tgt := 20) C dX9_tellScene_2 (by decide) (fun hc => ?_) (fun hc => ?_)
  · have hf := ifT hf hc
    exact V.sub (wX9_tellScene_b20 C hret hf) (LW_s rfl (LW_s rfl (LW_s rfl (LW_n (LW_n (LW_e))))))
  · have hf := ifF hf hc
    refine r_iload_n C dX9_tellScene_5 rfl ?_
    refine r_aload_n C dX9_tellScene_6 rfl ?_
    obtain ⟨v1, ev1, hf⟩ := bS hf
    refine r_getI C dX9_tellScene_7 fl_X9_28 rfl ev1 ?_
    refine r_aload_n C dX9_tellScene_10 rfl ?_
    obtain ⟨v2, ev2, hf⟩ := bS hf
    refine r_getI C dX9_tellScene_11 fl_X9_31 rfl ev2 ?_
    obtain ⟨r3, er3, hf⟩ := bS hf
    refine r_invSN1 (As := [.inl p2, .inl v1, .inl v2]) (host := "StageMachine") C dX9_tellScene_14 mcX11_isWithin (by decide) wd_291 ⟨by decide, by decide⟩ ⟨by decide, by decide⟩ rfl (Nat.le_of_ble_eq_true rfl) (kX11_isWithin l G er3) ?_
    refine r_if_eq (tgt := 24) C dX9_tellScene_17 (by decide) (fun hc => ?_) (fun hc => ?_)
    · have hf := ifT hf hc
      refine r_iconst (v := 0) C dX9_tellScene_24 (by decide) ?_
      exact V.sub (wX9_tellScene_b25 C hret hf) (LW_s rfl (LW_s rfl (LW_s rfl (LW_n (LW_n (LW_e))))))
    · have hf := ifF hf hc
      exact V.sub (wX9_tellScene_b20 C hret hf) (LW_s rfl (LW_s rfl (LW_s rfl (LW_n (LW_n (LW_e))))))

theorem dgX9_wouldMeet_0 : (decode cX9_wouldMeet 0 = .ok (.aload_n 0, 1)) ∧ (decode cX9_wouldMeet 1 = .ok (.getfield 19, 3)) ∧ (decode cX9_wouldMeet 4 = .ok (.aload_n 1, 1)) ∧ (decode cX9_wouldMeet 5 = .ok (.getfield 19, 3)) ∧ (decode cX9_wouldMeet 8 = .ok (.if_icmp .ne 29, 3)) ∧ (decode cX9_wouldMeet 11 = .ok (.aload_n 0, 1)) ∧ (decode cX9_wouldMeet 12 = .ok (.getfield 57, 3)) ∧ (decode cX9_wouldMeet 15 = .ok (.aload_n 0, 1)) ∧ (decode cX9_wouldMeet 16 = .ok (.getfield 25, 3)) ∧ (decode cX9_wouldMeet 19 = .ok (.aload_n 1, 1)) ∧ (decode cX9_wouldMeet 20 = .ok (.getfield 57, 3)) ∧ (decode cX9_wouldMeet 23 = .ok (.aload_n 1, 1)) ∧ True := dkW [(0, .aload_n 0, 1), (1, .getfield 19, 3), (4, .aload_n 1, 1), (5, .getfield 19, 3), (8, .if_icmp .ne 29, 3), (11, .aload_n 0, 1), (12, .getfield 57, 3), (15, .aload_n 0, 1), (16, .getfield 25, 3), (19, .aload_n 1, 1), (20, .getfield 57, 3), (23, .aload_n 1, 1)] 0 (by decide +kernel)
theorem dX9_wouldMeet_0 : decode cX9_wouldMeet 0 = .ok (.aload_n 0, 1) := dgX9_wouldMeet_0.1
theorem dX9_wouldMeet_1 : decode cX9_wouldMeet 1 = .ok (.getfield 19, 3) := dgX9_wouldMeet_0.2.1
theorem dX9_wouldMeet_4 : decode cX9_wouldMeet 4 = .ok (.aload_n 1, 1) := dgX9_wouldMeet_0.2.2.1
theorem dX9_wouldMeet_5 : decode cX9_wouldMeet 5 = .ok (.getfield 19, 3) := dgX9_wouldMeet_0.2.2.2.1
theorem dX9_wouldMeet_8 : decode cX9_wouldMeet 8 = .ok (.if_icmp .ne 29, 3) := dgX9_wouldMeet_0.2.2.2.2.1
theorem dX9_wouldMeet_11 : decode cX9_wouldMeet 11 = .ok (.aload_n 0, 1) := dgX9_wouldMeet_0.2.2.2.2.2.1
theorem dX9_wouldMeet_12 : decode cX9_wouldMeet 12 = .ok (.getfield 57, 3) := dgX9_wouldMeet_0.2.2.2.2.2.2.1
theorem dX9_wouldMeet_15 : decode cX9_wouldMeet 15 = .ok (.aload_n 0, 1) := dgX9_wouldMeet_0.2.2.2.2.2.2.2.1
theorem dX9_wouldMeet_16 : decode cX9_wouldMeet 16 = .ok (.getfield 25, 3) := dgX9_wouldMeet_0.2.2.2.2.2.2.2.2.1
theorem dX9_wouldMeet_19 : decode cX9_wouldMeet 19 = .ok (.aload_n 1, 1) := dgX9_wouldMeet_0.2.2.2.2.2.2.2.2.2.1
theorem dX9_wouldMeet_20 : decode cX9_wouldMeet 20 = .ok (.getfield 57, 3) := dgX9_wouldMeet_0.2.2.2.2.2.2.2.2.2.2.1
theorem dX9_wouldMeet_23 : decode cX9_wouldMeet 23 = .ok (.aload_n 1, 1) := dgX9_wouldMeet_0.2.2.2.2.2.2.2.2.2.2.2.1
theorem dgX9_wouldMeet_24 : (decode cX9_wouldMeet 24 = .ok (.getfield 25, 3)) ∧ (decode cX9_wouldMeet 27 = .ok (.invokestatic 60, 3)) ∧ (decode cX9_wouldMeet 30 = .ok (.ifCond .eq 7, 3)) ∧ (decode cX9_wouldMeet 33 = .ok (.iconst 1, 1)) ∧ (decode cX9_wouldMeet 34 = .ok (.goto 4, 3)) ∧ (decode cX9_wouldMeet 37 = .ok (.iconst 0, 1)) ∧ (decode cX9_wouldMeet 38 = .ok (.ireturn, 1)) ∧ True := dkW [(24, .getfield 25, 3), (27, .invokestatic 60, 3), (30, .ifCond .eq 7, 3), (33, .iconst 1, 1), (34, .goto 4, 3), (37, .iconst 0, 1), (38, .ireturn, 1)] 24 (by decide +kernel)
theorem dX9_wouldMeet_24 : decode cX9_wouldMeet 24 = .ok (.getfield 25, 3) := dgX9_wouldMeet_24.1
theorem dX9_wouldMeet_27 : decode cX9_wouldMeet 27 = .ok (.invokestatic 60, 3) := dgX9_wouldMeet_24.2.1
theorem dX9_wouldMeet_30 : decode cX9_wouldMeet 30 = .ok (.ifCond .eq 7, 3) := dgX9_wouldMeet_24.2.2.1
theorem dX9_wouldMeet_33 : decode cX9_wouldMeet 33 = .ok (.iconst 1, 1) := dgX9_wouldMeet_24.2.2.2.1
theorem dX9_wouldMeet_34 : decode cX9_wouldMeet 34 = .ok (.goto 4, 3) := dgX9_wouldMeet_24.2.2.2.2.1
theorem dX9_wouldMeet_37 : decode cX9_wouldMeet 37 = .ok (.iconst 0, 1) := dgX9_wouldMeet_24.2.2.2.2.2.1
theorem dX9_wouldMeet_38 : decode cX9_wouldMeet 38 = .ok (.ireturn, 1) := dgX9_wouldMeet_24.2.2.2.2.2.2.1
abbrev rmX9_wouldMeet : Room := { frames := 1, cells := 0, slots := 0, locals := 23 }
noncomputable def fX9_wouldMeet_b38 (N : Nat)  (t : Nat) (h : Hs) (u0 : Int32) : Option (Int32 × Hs) :=
  (zc u0).bind fun z1 =>
  some (z1, h)
set_option maxHeartbeats 4000000 in
set_option maxRecDepth 20000 in
theorem wX9_wouldMeet_b38 {p : Program} {l : Launch} {e : Env} {s : State} {m : MethodId} {args : Array Value} {below : List Frame} {meth : Method} {c : Code} {G : Gl} {N : Nat} {h : Hs} {r : Int32 × Hs}  {t : Nat} {u0 : Int32} (C : Cx p s m args meth c cX9_wouldMeet RX9 2 G) (hret : meth.sig.returnType = (some .boolean))  (hf : fX9_wouldMeet_b38 N  t h u0 = some r) : V p l e rmX9_wouldMeet s m args below meth c G 2 (MQ below (QcG G (some (.inl r.1)) r.2) args s rmX9_wouldMeet.cells rmX9_wouldMeet.slots (AG G)) h 0 0 38 [some (.inr (some t)), none] [.inl u0] := by
  unfold fX9_wouldMeet_b38 at hf
  obtain ⟨z1, ez1, hf⟩ := bS hf
  exact r_zretF C dX9_wouldMeet_38 hret ez1 hf (by decide) (by decide)
noncomputable def fX9_wouldMeet_b37 (N : Nat)  (t : Nat) (h : Hs)  : Option (Int32 × Hs) :=
  fX9_wouldMeet_b38 N t h 0
set_option maxHeartbeats 4000000 in
set_option maxRecDepth 20000 in
theorem wX9_wouldMeet_b37 {p : Program} {l : Launch} {e : Env} {s : State} {m : MethodId} {args : Array Value} {below : List Frame} {meth : Method} {c : Code} {G : Gl} {N : Nat} {h : Hs} {r : Int32 × Hs}  {t : Nat}  (C : Cx p s m args meth c cX9_wouldMeet RX9 2 G) (hret : meth.sig.returnType = (some .boolean))  (hf : fX9_wouldMeet_b37 N  t h  = some r) : V p l e rmX9_wouldMeet s m args below meth c G 2 (MQ below (QcG G (some (.inl r.1)) r.2) args s rmX9_wouldMeet.cells rmX9_wouldMeet.slots (AG G)) h 0 0 37 [some (.inr (some t)), none] [] := by
  unfold fX9_wouldMeet_b37 at hf
  refine r_iconst (v := 0) C dX9_wouldMeet_37 (by decide) ?_
  exact V.sub (wX9_wouldMeet_b38 C hret hf) (LW_s rfl (LW_n (LW_e)))
noncomputable def fX9_wouldMeet (N : Nat) (h : Hs) (t : Nat) (p1 : Option Nat) : Option (Int32 × Hs) :=
  (oI 9 1 h (some t)).bind fun v1 =>
  (oI 9 1 h p1).bind fun v2 =>
  if v1 = v2 then (
  (oI 9 8 h (some t)).bind fun v3 =>
  (oI 9 2 h (some t)).bind fun v4 =>
  (oI 9 8 h p1).bind fun v5 =>
  (oI 9 2 h p1).bind fun v6 =>
  (fX11_overlap N h v3 v4 v5 v6).bind fun r7 =>
  if r7.1 = 0 then (
  fX9_wouldMeet_b37 N t r7.2)
  else fX9_wouldMeet_b38 N t r7.2 1)
  else fX9_wouldMeet_b37 N t h
set_option maxHeartbeats 4000000 in
set_option maxRecDepth 20000 in
theorem kX9_wouldMeet (l : Launch) (G : Gl) {N : Nat} {h : Hs} {t : Nat} {p1 : Option Nat} {r : Int32 × Hs} (hf : fX9_wouldMeet N h t p1 = some r) : CT l G yX9_wouldMeet cX9_wouldMeet 2 (some .boolean) rmX9_wouldMeet [.inr (some t), .inr p1] h (some (.inl r.1)) r.2 := by
  refine mk_CT (by decide) (Nat.le_of_ble_eq_true rfl) ?_
  intro p e s m args below meth c C hret hin
  unfold fX9_wouldMeet at hf
  refine r_aload_n C dX9_wouldMeet_0 rfl ?_
  obtain ⟨v1, ev1, hf⟩ := bS hf
  refine r_getI C dX9_wouldMeet_1 fl_X9_19 rfl ev1 ?_
  refine r_aload_n C dX9_wouldMeet_4 rfl ?_
  obtain ⟨v2, ev2, hf⟩ := bS hf
  refine r_getI C dX9_wouldMeet_5 fl_X9_19 rfl ev2 ?_
  refine r_icmp_ne (tgt := 37) C dX9_wouldMeet_8 (by decide) (fun hc => ?_) (fun hc => ?_)
  · have hf := ifF hf hc
    exact V.sub (wX9_wouldMeet_b37 C hret hf) (LW_s rfl (LW_n (LW_e)))
  · have hf := ifT hf hc
    refine r_aload_n C dX9_wouldMeet_11 rfl ?_
    obtain ⟨v3, ev3, hf⟩ := bS hf
    refine r_getI C dX9_wouldMeet_12 fl_X9_57 rfl ev3 ?_
    refine r_aload_n C dX9_wouldMeet_15 rfl ?_
    obtain ⟨v4, ev4, hf⟩ := bS hf
    refine r_getI C dX9_wouldMeet_16 fl_X9_25 rfl ev4 ?_
    refine r_aload_n C dX9_wouldMeet_19 rfl ?_
    obtain ⟨v5, ev5, hf⟩ := bS hf
    refine r_getI C dX9_wouldMeet_20 fl_X9_57 rfl ev5 ?_
    refine r_aload_n C dX9_wouldMeet_23 rfl ?_
    obtain ⟨v6, ev6, hf⟩ := bS hf
    refine r_getI C dX9_wouldMeet_24 fl_X9_25 rfl ev6 ?_
    obtain ⟨r7, er7, hf⟩ := bS hf
    refine r_invSN1 (As := [.inl v3, .inl v4, .inl v5, .inl v6]) (host := "StageMachine") C dX9_wouldMeet_27 mcX11_overlap (by decide) wd_301 ⟨by decide, by decide⟩ ⟨by decide, by decide⟩ rfl (Nat.le_of_ble_eq_true rfl) (kX11_overlap l G er7) ?_
    refine r_if_eq (tgt := 37) C dX9_wouldMeet_30 (by decide) (fun hc => ?_) (fun hc => ?_)
    · have hf := ifT hf hc
      exact V.sub (wX9_wouldMeet_b37 C hret hf) (LW_s rfl (LW_n (LW_e)))
    · have hf := ifF hf hc
      refine r_iconst (v := 1) C dX9_wouldMeet_33 (by decide) ?_
      refine r_goto (tgt := 38) C dX9_wouldMeet_34 (by decide) ?_
      exact V.sub (wX9_wouldMeet_b38 C hret hf) (LW_s rfl (LW_n (LW_e)))

theorem dgX10_init_0 : (decode cX10_init 0 = .ok (.aload_n 0, 1)) ∧ (decode cX10_init 1 = .ok (.invokespecial 3, 3)) ∧ (decode cX10_init 4 = .ok (.aload_n 0, 1)) ∧ (decode cX10_init 5 = .ok (.new 9, 3)) ∧ (decode cX10_init 8 = .ok (.dup, 1)) ∧ (decode cX10_init 9 = .ok (.invokespecial 11, 3)) ∧ (decode cX10_init 12 = .ok (.putfield 12, 3)) ∧ (decode cX10_init 15 = .ok (.aload_n 0, 1)) ∧ (decode cX10_init 16 = .ok (.new 9, 3)) ∧ (decode cX10_init 19 = .ok (.dup, 1)) ∧ (decode cX10_init 20 = .ok (.invokespecial 11, 3)) ∧ (decode cX10_init 23 = .ok (.putfield 18, 3)) ∧ True := dkW [(0, .aload_n 0, 1), (1, .invokespecial 3, 3), (4, .aload_n 0, 1), (5, .new 9, 3), (8, .dup, 1), (9, .invokespecial 11, 3), (12, .putfield 12, 3), (15, .aload_n 0, 1), (16, .new 9, 3), (19, .dup, 1), (20, .invokespecial 11, 3), (23, .putfield 18, 3)] 0 (by decide +kernel)
theorem dX10_init_0 : decode cX10_init 0 = .ok (.aload_n 0, 1) := dgX10_init_0.1
theorem dX10_init_1 : decode cX10_init 1 = .ok (.invokespecial 3, 3) := dgX10_init_0.2.1
theorem dX10_init_4 : decode cX10_init 4 = .ok (.aload_n 0, 1) := dgX10_init_0.2.2.1
theorem dX10_init_5 : decode cX10_init 5 = .ok (.new 9, 3) := dgX10_init_0.2.2.2.1
theorem dX10_init_8 : decode cX10_init 8 = .ok (.dup, 1) := dgX10_init_0.2.2.2.2.1
theorem dX10_init_9 : decode cX10_init 9 = .ok (.invokespecial 11, 3) := dgX10_init_0.2.2.2.2.2.1
theorem dX10_init_12 : decode cX10_init 12 = .ok (.putfield 12, 3) := dgX10_init_0.2.2.2.2.2.2.1
theorem dX10_init_15 : decode cX10_init 15 = .ok (.aload_n 0, 1) := dgX10_init_0.2.2.2.2.2.2.2.1
theorem dX10_init_16 : decode cX10_init 16 = .ok (.new 9, 3) := dgX10_init_0.2.2.2.2.2.2.2.2.1
theorem dX10_init_19 : decode cX10_init 19 = .ok (.dup, 1) := dgX10_init_0.2.2.2.2.2.2.2.2.2.1
theorem dX10_init_20 : decode cX10_init 20 = .ok (.invokespecial 11, 3) := dgX10_init_0.2.2.2.2.2.2.2.2.2.2.1
theorem dX10_init_23 : decode cX10_init 23 = .ok (.putfield 18, 3) := dgX10_init_0.2.2.2.2.2.2.2.2.2.2.2.1
theorem dgX10_init_26 : (decode cX10_init 26 = .ok (.aload_n 0, 1)) ∧ (decode cX10_init 27 = .ok (.aload_n 1, 1)) ∧ (decode cX10_init 28 = .ok (.putfield 21, 3)) ∧ (decode cX10_init 31 = .ok (.return_, 1)) ∧ True := dkW [(26, .aload_n 0, 1), (27, .aload_n 1, 1), (28, .putfield 21, 3), (31, .return_, 1)] 26 (by decide +kernel)
theorem dX10_init_26 : decode cX10_init 26 = .ok (.aload_n 0, 1) := dgX10_init_26.1
theorem dX10_init_27 : decode cX10_init 27 = .ok (.aload_n 1, 1) := dgX10_init_26.2.1
theorem dX10_init_28 : decode cX10_init 28 = .ok (.putfield 21, 3) := dgX10_init_26.2.2.1
theorem dX10_init_31 : decode cX10_init 31 = .ok (.return_, 1) := dgX10_init_26.2.2.2.1
abbrev rmX10_init : Room := { frames := 2, cells := 2, slots := 6, locals := 32 }
noncomputable def fX10_init (N : Nat) (h : Hs) (t : Nat) (p1 : Option Nat) : Option (Hs) :=
  (some (nw h (7, 0))).bind fun h1 =>
  (fX7_init N h1 (sz h) ).bind fun r2 =>
  (qR 10 1 r2 (some t) (some (sz h))).bind fun h3 =>
  (some (nw h3 (7, 0))).bind fun h4 =>
  (fX7_init N h4 (sz h3) ).bind fun r5 =>
  (qR 10 2 r5 (some t) (some (sz h3))).bind fun h6 =>
  (qR 10 0 h6 (some t) p1).bind fun h7 =>
  some h7
set_option maxHeartbeats 4000000 in
set_option maxRecDepth 20000 in
theorem kX10_init (l : Launch) (G : Gl) {N : Nat} {h : Hs} {t : Nat} {p1 : Option Nat} {r : Hs} (hf : fX10_init N h t p1 = some r) : CT l G yX10_init cX10_init 2 none rmX10_init [.inr (some t), .inr p1] h (none) r := by
  refine mk_CT (by decide) (Nat.le_of_ble_eq_true rfl) ?_
  intro p e s m args below meth c C hret hin
  unfold fX10_init at hf
  refine r_aload_n C dX10_init_0 rfl ?_
  refine r_objInit C dX10_init_1 wd_195 wd_24 wd_25 (by decide) (Nat.le_of_ble_eq_true rfl) ?_
  refine r_aload_n C dX10_init_4 rfl ?_
  obtain ⟨h1, eh1, hf⟩ := bS hf
  cases eh1
  refine r_new C dX10_init_5 fc_7 wd_196 wd_197 wd_7 (by decide) (by decide) (by decide) ?_
  refine r_dup C dX10_init_8 ?_
  obtain ⟨r2, er2, hf⟩ := bS hf
  refine r_invIN0 (As := []) (host := "StageMachine") C dX10_init_9 mcX7_init (by decide) wd_199 rfl ⟨by decide, by decide⟩ ⟨by decide, by decide⟩ rfl (Nat.le_of_ble_eq_true rfl) (kX7_init l G er2) ?_
  obtain ⟨h3, eh3, hf⟩ := bS hf
  refine r_putR C dX10_init_12 fl_X10_12 (Or.inr ⟨ff_10_1, hin⟩) rfl eh3 ?_
  refine r_aload_n C dX10_init_15 rfl ?_
  obtain ⟨h4, eh4, hf⟩ := bS hf
  cases eh4
  refine r_new C dX10_init_16 fc_7 wd_196 wd_197 wd_7 (by decide) (by decide) (by decide) ?_
  refine r_dup C dX10_init_19 ?_
  obtain ⟨r5, er5, hf⟩ := bS hf
  refine r_invIN0 (As := []) (host := "StageMachine") C dX10_init_20 mcX7_init (by decide) wd_199 rfl ⟨by decide, by decide⟩ ⟨by decide, by decide⟩ rfl (Nat.le_of_ble_eq_true rfl) (kX7_init l G er5) ?_
  obtain ⟨h6, eh6, hf⟩ := bS hf
  refine r_putR C dX10_init_23 fl_X10_18 (Or.inr ⟨ff_10_2, hin⟩) rfl eh6 ?_
  refine r_aload_n C dX10_init_26 rfl ?_
  refine r_aload_n C dX10_init_27 rfl ?_
  obtain ⟨h7, eh7, hf⟩ := bS hf
  refine r_putR C dX10_init_28 fl_X10_21 (Or.inr ⟨ff_10_0, hin⟩) rfl eh7 ?_
  exact r_vretF C dX10_init_31 hret hf (by decide) (by decide)

theorem dgX10_isBeyond_0 : (decode cX10_isBeyond 0 = .ok (.iconst 0, 1)) ∧ (decode cX10_isBeyond 1 = .ok (.istore_n 1, 1)) ∧ (decode cX10_isBeyond 2 = .ok (.iload_n 1, 1)) ∧ (decode cX10_isBeyond 3 = .ok (.aload_n 0, 1)) ∧ (decode cX10_isBeyond 4 = .ok (.getfield 21, 3)) ∧ (decode cX10_isBeyond 7 = .ok (.getfield 94, 3)) ∧ (decode cX10_isBeyond 10 = .ok (.if_icmp .ge 49, 3)) ∧ (decode cX10_isBeyond 13 = .ok (.aload_n 0, 1)) ∧ (decode cX10_isBeyond 14 = .ok (.getfield 21, 3)) ∧ (decode cX10_isBeyond 17 = .ok (.getfield 97, 3)) ∧ (decode cX10_isBeyond 20 = .ok (.iload_n 1, 1)) ∧ (decode cX10_isBeyond 21 = .ok (.aaload, 1)) ∧ True := dkW [(0, .iconst 0, 1), (1, .istore_n 1, 1), (2, .iload_n 1, 1), (3, .aload_n 0, 1), (4, .getfield 21, 3), (7, .getfield 94, 3), (10, .if_icmp .ge 49, 3), (13, .aload_n 0, 1), (14, .getfield 21, 3), (17, .getfield 97, 3), (20, .iload_n 1, 1), (21, .aaload, 1)] 0 (by decide +kernel)
theorem dX10_isBeyond_0 : decode cX10_isBeyond 0 = .ok (.iconst 0, 1) := dgX10_isBeyond_0.1
theorem dX10_isBeyond_1 : decode cX10_isBeyond 1 = .ok (.istore_n 1, 1) := dgX10_isBeyond_0.2.1
theorem dX10_isBeyond_2 : decode cX10_isBeyond 2 = .ok (.iload_n 1, 1) := dgX10_isBeyond_0.2.2.1
theorem dX10_isBeyond_3 : decode cX10_isBeyond 3 = .ok (.aload_n 0, 1) := dgX10_isBeyond_0.2.2.2.1
theorem dX10_isBeyond_4 : decode cX10_isBeyond 4 = .ok (.getfield 21, 3) := dgX10_isBeyond_0.2.2.2.2.1
theorem dX10_isBeyond_7 : decode cX10_isBeyond 7 = .ok (.getfield 94, 3) := dgX10_isBeyond_0.2.2.2.2.2.1
theorem dX10_isBeyond_10 : decode cX10_isBeyond 10 = .ok (.if_icmp .ge 49, 3) := dgX10_isBeyond_0.2.2.2.2.2.2.1
theorem dX10_isBeyond_13 : decode cX10_isBeyond 13 = .ok (.aload_n 0, 1) := dgX10_isBeyond_0.2.2.2.2.2.2.2.1
theorem dX10_isBeyond_14 : decode cX10_isBeyond 14 = .ok (.getfield 21, 3) := dgX10_isBeyond_0.2.2.2.2.2.2.2.2.1
theorem dX10_isBeyond_17 : decode cX10_isBeyond 17 = .ok (.getfield 97, 3) := dgX10_isBeyond_0.2.2.2.2.2.2.2.2.2.1
theorem dX10_isBeyond_20 : decode cX10_isBeyond 20 = .ok (.iload_n 1, 1) := dgX10_isBeyond_0.2.2.2.2.2.2.2.2.2.2.1
theorem dX10_isBeyond_21 : decode cX10_isBeyond 21 = .ok (.aaload, 1) := dgX10_isBeyond_0.2.2.2.2.2.2.2.2.2.2.2.1
theorem dgX10_isBeyond_22 : (decode cX10_isBeyond 22 = .ok (.astore_n 2, 1)) ∧ (decode cX10_isBeyond 23 = .ok (.aload_n 2, 1)) ∧ (decode cX10_isBeyond 24 = .ok (.getfield 101, 3)) ∧ (decode cX10_isBeyond 27 = .ok (.aload_n 2, 1)) ∧ (decode cX10_isBeyond 28 = .ok (.getfield 106, 3)) ∧ (decode cX10_isBeyond 31 = .ok (.aload_n 2, 1)) ∧ (decode cX10_isBeyond 32 = .ok (.getfield 109, 3)) ∧ (decode cX10_isBeyond 35 = .ok (.invokestatic 112, 3)) ∧ (decode cX10_isBeyond 38 = .ok (.ifCond .ne 15, 3)) ∧ (decode cX10_isBeyond 41 = .ok (.aload_n 0, 1)) ∧ (decode cX10_isBeyond 42 = .ok (.getfield 18, 3)) ∧ (decode cX10_isBeyond 45 = .ok (.iconst 1, 1)) ∧ True := dkW [(22, .astore_n 2, 1), (23, .aload_n 2, 1), (24, .getfield 101, 3), (27, .aload_n 2, 1), (28, .getfield 106, 3), (31, .aload_n 2, 1), (32, .getfield 109, 3), (35, .invokestatic 112, 3), (38, .ifCond .ne 15, 3), (41, .aload_n 0, 1), (42, .getfield 18, 3), (45, .iconst 1, 1)] 22 (by decide +kernel)
theorem dX10_isBeyond_22 : decode cX10_isBeyond 22 = .ok (.astore_n 2, 1) := dgX10_isBeyond_22.1
theorem dX10_isBeyond_23 : decode cX10_isBeyond 23 = .ok (.aload_n 2, 1) := dgX10_isBeyond_22.2.1
theorem dX10_isBeyond_24 : decode cX10_isBeyond 24 = .ok (.getfield 101, 3) := dgX10_isBeyond_22.2.2.1
theorem dX10_isBeyond_27 : decode cX10_isBeyond 27 = .ok (.aload_n 2, 1) := dgX10_isBeyond_22.2.2.2.1
theorem dX10_isBeyond_28 : decode cX10_isBeyond 28 = .ok (.getfield 106, 3) := dgX10_isBeyond_22.2.2.2.2.1
theorem dX10_isBeyond_31 : decode cX10_isBeyond 31 = .ok (.aload_n 2, 1) := dgX10_isBeyond_22.2.2.2.2.2.1
theorem dX10_isBeyond_32 : decode cX10_isBeyond 32 = .ok (.getfield 109, 3) := dgX10_isBeyond_22.2.2.2.2.2.2.1
theorem dX10_isBeyond_35 : decode cX10_isBeyond 35 = .ok (.invokestatic 112, 3) := dgX10_isBeyond_22.2.2.2.2.2.2.2.1
theorem dX10_isBeyond_38 : decode cX10_isBeyond 38 = .ok (.ifCond .ne 15, 3) := dgX10_isBeyond_22.2.2.2.2.2.2.2.2.1
theorem dX10_isBeyond_41 : decode cX10_isBeyond 41 = .ok (.aload_n 0, 1) := dgX10_isBeyond_22.2.2.2.2.2.2.2.2.2.1
theorem dX10_isBeyond_42 : decode cX10_isBeyond 42 = .ok (.getfield 18, 3) := dgX10_isBeyond_22.2.2.2.2.2.2.2.2.2.2.1
theorem dX10_isBeyond_45 : decode cX10_isBeyond 45 = .ok (.iconst 1, 1) := dgX10_isBeyond_22.2.2.2.2.2.2.2.2.2.2.2.1
theorem dgX10_isBeyond_46 : (decode cX10_isBeyond 46 = .ok (.iload_n 1, 1)) ∧ True := dkW [(46, .iload_n 1, 1)] 46 (by decide +kernel)
theorem dX10_isBeyond_46 : decode cX10_isBeyond 46 = .ok (.iload_n 1, 1) := dgX10_isBeyond_46.1
theorem dX10_isBeyond_47 : decode cX10_isBeyond 47 = .ok (.iconst (-1), 1) := by decide +kernel
theorem dgX10_isBeyond_48 : (decode cX10_isBeyond 48 = .ok (.invokevirtual 39, 3)) ∧ (decode cX10_isBeyond 51 = .ok (.iconst 1, 1)) ∧ (decode cX10_isBeyond 52 = .ok (.ireturn, 1)) ∧ (decode cX10_isBeyond 53 = .ok (.iinc 1 1, 3)) ∧ (decode cX10_isBeyond 56 = .ok (.goto (-54), 3)) ∧ (decode cX10_isBeyond 59 = .ok (.iconst 0, 1)) ∧ (decode cX10_isBeyond 60 = .ok (.ireturn, 1)) ∧ True := dkW [(48, .invokevirtual 39, 3), (51, .iconst 1, 1), (52, .ireturn, 1), (53, .iinc 1 1, 3), (56, .goto (-54), 3), (59, .iconst 0, 1), (60, .ireturn, 1)] 48 (by decide +kernel)
theorem dX10_isBeyond_48 : decode cX10_isBeyond 48 = .ok (.invokevirtual 39, 3) := dgX10_isBeyond_48.1
theorem dX10_isBeyond_51 : decode cX10_isBeyond 51 = .ok (.iconst 1, 1) := dgX10_isBeyond_48.2.1
theorem dX10_isBeyond_52 : decode cX10_isBeyond 52 = .ok (.ireturn, 1) := dgX10_isBeyond_48.2.2.1
theorem dX10_isBeyond_53 : decode cX10_isBeyond 53 = .ok (.iinc 1 1, 3) := dgX10_isBeyond_48.2.2.2.1
theorem dX10_isBeyond_56 : decode cX10_isBeyond 56 = .ok (.goto (-54), 3) := dgX10_isBeyond_48.2.2.2.2.1
theorem dX10_isBeyond_59 : decode cX10_isBeyond 59 = .ok (.iconst 0, 1) := dgX10_isBeyond_48.2.2.2.2.2.1
theorem dX10_isBeyond_60 : decode cX10_isBeyond 60 = .ok (.ireturn, 1) := dgX10_isBeyond_48.2.2.2.2.2.2.1
abbrev rmX10_isBeyond : Room := { frames := 1, cells := 0, slots := 0, locals := 23 }
noncomputable def fX10_isBeyond_b2_body (N : Nat)  (g2 : Hs → Int32 → Option (Int32 × Hs)) (t : Nat) (h : Hs) (x1 : Int32) : Option (Int32 × Hs) :=
  (oR 10 0 h (some t)).bind fun o1 =>
  (oI 5 7 h o1).bind fun v2 =>
  if v2 ≤ x1 then (
  some (0, h))
  else (oR 10 0 h (some t)).bind fun o3 =>
  (oR 5 0 h o3).bind fun o4 =>
  (lQ 23 h o4 x1).bind fun o5 =>
  (oI 9 8 h o5).bind fun v6 =>
  (oI 9 4 h o5).bind fun v7 =>
  (oI 9 5 h o5).bind fun v8 =>
  (fX11_isWithin N h v6 v7 v8).bind fun r9 =>
  if r9.1 = 0 then (
  (oR 10 2 r9.2 (some t)).bind fun o11 =>
  (rc 7 r9.2 o11).bind fun a13 =>
  (fX7_put N r9.2 a13 1 x1 (-1)).bind fun r12 =>
  some (1, r12))
  else (some (x1 + 1)).bind fun y10 =>
  g2 r9.2 y10
noncomputable def fX10_isBeyond_b2 (N : Nat)  (t : Nat) (n : Nat) : Hs → Int32 → Option (Int32 × Hs) := lp (fun _ _ => none) (fun g h x1 => fX10_isBeyond_b2_body N  g t h x1) n
set_option maxHeartbeats 4000000 in
set_option maxRecDepth 20000 in
theorem wX10_isBeyond_b2_body {p : Program} {l : Launch} {e : Env} {s : State} {m : MethodId} {args : Array Value} {below : List Frame} {meth : Method} {c : Code} {G : Gl} {N : Nat} {h : Hs} {r : Int32 × Hs}  {g2 : Hs → Int32 → Option (Int32 × Hs)} {t : Nat} {x1 : Int32} (C : Cx p s m args meth c cX10_isBeyond RX10 3 G) (hret : meth.sig.returnType = (some .boolean))  (hg2 : ∀ (h : Hs) (x1 : Int32), g2 h x1 = some r → V p l e rmX10_isBeyond s m args below meth c G 3 (MQ below (QcG G (some (.inl r.1)) r.2) args s rmX10_isBeyond.cells rmX10_isBeyond.slots (AG G)) h 0 0 2 [some (.inr (some t)), some (.inl x1), none] []) (hf : fX10_isBeyond_b2_body N  g2 t h x1 = some r) : V p l e rmX10_isBeyond s m args below meth c G 3 (MQ below (QcG G (some (.inl r.1)) r.2) args s rmX10_isBeyond.cells rmX10_isBeyond.slots (AG G)) h 0 0 2 [some (.inr (some t)), some (.inl x1), none] [] := by
  unfold fX10_isBeyond_b2_body at hf
  refine r_iload_n C dX10_isBeyond_2 rfl ?_
  refine r_aload_n C dX10_isBeyond_3 rfl ?_
  obtain ⟨o1, eo1, hf⟩ := bS hf
  refine r_getR C dX10_isBeyond_4 fl_X10_21 rfl eo1 ?_
  obtain ⟨v2, ev2, hf⟩ := bS hf
  refine r_getI C dX10_isBeyond_7 fl_X10_94 rfl ev2 ?_
  refine r_icmp_ge (tgt := 59) C dX10_isBeyond_10 (by decide) (fun hc => ?_) (fun hc => ?_)
  · have hf := ifT hf hc
    refine r_iconst (v := 0) C dX10_isBeyond_59 (by decide) ?_
    exact r_zretF C dX10_isBeyond_60 hret (z := 0) rfl hf (by decide) (by decide)
  · have hf := ifF hf hc
    refine r_aload_n C dX10_isBeyond_13 rfl ?_
    obtain ⟨o3, eo3, hf⟩ := bS hf
    refine r_getR C dX10_isBeyond_14 fl_X10_21 rfl eo3 ?_
    obtain ⟨o4, eo4, hf⟩ := bS hf
    refine r_getR C dX10_isBeyond_17 fl_X10_97 rfl eo4 ?_
    refine r_iload_n C dX10_isBeyond_20 rfl ?_
    obtain ⟨o5, eo5, hf⟩ := bS hf
    refine r_qald (t := 3) C dX10_isBeyond_21 (by decide) (by decide) rfl eo5 ?_
    refine r_astore_n C dX10_isBeyond_22 (by decide) ?_
    refine r_aload_n C dX10_isBeyond_23 rfl ?_
    obtain ⟨v6, ev6, hf⟩ := bS hf
    refine r_getI C dX10_isBeyond_24 fl_X10_101 rfl ev6 ?_
    refine r_aload_n C dX10_isBeyond_27 rfl ?_
    obtain ⟨v7, ev7, hf⟩ := bS hf
    refine r_getI C dX10_isBeyond_28 fl_X10_106 rfl ev7 ?_
    refine r_aload_n C dX10_isBeyond_31 rfl ?_
    obtain ⟨v8, ev8, hf⟩ := bS hf
    refine r_getI C dX10_isBeyond_32 fl_X10_109 rfl ev8 ?_
    obtain ⟨r9, er9, hf⟩ := bS hf
    refine r_invSN1 (As := [.inl v6, .inl v7, .inl v8]) (host := "StageMachine") C dX10_isBeyond_35 mcX11_isWithin (by decide) wd_291 ⟨by decide, by decide⟩ ⟨by decide, by decide⟩ rfl (Nat.le_of_ble_eq_true rfl) (kX11_isWithin l G er9) ?_
    refine r_if_ne (tgt := 53) C dX10_isBeyond_38 (by decide) (fun hc => ?_) (fun hc => ?_)
    · have hf := ifF hf hc
      obtain ⟨y10, ey10, hf⟩ := bS hf
      refine r_iincE (v := 1) C dX10_isBeyond_53 rfl (by decide) (by decide) ey10 ?_
      refine r_goto (tgt := 2) C dX10_isBeyond_56 (by decide) ?_
      exact V.sub (hg2 _ _ hf) (LW_s rfl (LW_s rfl (LW_n (LW_e))))
    · have hf := ifT hf hc
      refine r_aload_n C dX10_isBeyond_41 rfl ?_
      obtain ⟨o11, eo11, hf⟩ := bS hf
      refine r_getR C dX10_isBeyond_42 fl_X10_18 rfl eo11 ?_
      refine r_iconst (v := 1) C dX10_isBeyond_45 (by decide) ?_
      refine r_iload_n C dX10_isBeyond_46 rfl ?_
      refine r_iconst (v := -1) C dX10_isBeyond_47 (by decide) ?_
      obtain ⟨a13, ea13, hf⟩ := bS hf
      obtain ⟨r12, er12, hf⟩ := bS hf
      refine r_invV0 (As := [.inl 1, .inl x1, .inl (-1)]) (ci := 7) C dX10_isBeyond_48 mcX7_put wd_601 wd_602 wd_603 rfl rfl (by decide) ⟨by decide, by decide⟩ ⟨by decide, by decide⟩ rfl (Nat.le_of_ble_eq_true rfl) ea13 (kX7_put l G er12) ?_
      refine r_iconst (v := 1) C dX10_isBeyond_51 (by decide) ?_
      exact r_zretF C dX10_isBeyond_52 hret (z := 1) rfl hf (by decide) (by decide)
theorem wX10_isBeyond_b2 {p : Program} {l : Launch} {e : Env} {s : State} {m : MethodId} {args : Array Value} {below : List Frame} {meth : Method} {c : Code} {G : Gl} {N : Nat} {r : Int32 × Hs}  {t : Nat} (C : Cx p s m args meth c cX10_isBeyond RX10 3 G) (hret : meth.sig.returnType = (some .boolean))  : ∀ (n : Nat) (h : Hs) (x1 : Int32), fX10_isBeyond_b2 N  t n h x1 = some r → V p l e rmX10_isBeyond s m args below meth c G 3 (MQ below (QcG G (some (.inl r.1)) r.2) args s rmX10_isBeyond.cells rmX10_isBeyond.slots (AG G)) h 0 0 2 [some (.inr (some t)), some (.inl x1), none] [] := by
  intro n
  induction n with
  | zero => intro h x1 hf; exact absurd (show (none : Option (Int32 × Hs)) = some r from hf) (fun q => by cases q)
  | succ n ih => intro h x1 hf; exact wX10_isBeyond_b2_body C hret  ih (show fX10_isBeyond_b2_body N  (fX10_isBeyond_b2 N  t n) t h x1 = some r from hf)
noncomputable def fX10_isBeyond (N : Nat) (h : Hs) (t : Nat)  : Option (Int32 × Hs) :=
  fX10_isBeyond_b2 N t N h 0
set_option maxHeartbeats 4000000 in
set_option maxRecDepth 20000 in
theorem kX10_isBeyond (l : Launch) (G : Gl) {N : Nat} {h : Hs} {t : Nat}  {r : Int32 × Hs} (hf : fX10_isBeyond N h t  = some r) : CT l G yX10_isBeyond cX10_isBeyond 3 (some .boolean) rmX10_isBeyond [.inr (some t)] h (some (.inl r.1)) r.2 := by
  refine mk_CT (by decide) (Nat.le_of_ble_eq_true rfl) ?_
  intro p e s m args below meth c C hret hin
  unfold fX10_isBeyond at hf
  refine r_iconst (v := 0) C dX10_isBeyond_0 (by decide) ?_
  refine r_istore_n C dX10_isBeyond_1 (by decide) ?_
  exact V.sub (wX10_isBeyond_b2 C hret N _ _ hf) (LW_s rfl (LW_s rfl (LW_n (LW_e))))

theorem dgX10_isMeeting_0 : (decode cX10_isMeeting 0 = .ok (.iconst 0, 1)) ∧ (decode cX10_isMeeting 1 = .ok (.istore_n 1, 1)) ∧ (decode cX10_isMeeting 2 = .ok (.iload_n 1, 1)) ∧ (decode cX10_isMeeting 3 = .ok (.aload_n 0, 1)) ∧ (decode cX10_isMeeting 4 = .ok (.getfield 21, 3)) ∧ (decode cX10_isMeeting 7 = .ok (.getfield 94, 3)) ∧ (decode cX10_isMeeting 10 = .ok (.if_icmp .ge 66, 3)) ∧ (decode cX10_isMeeting 13 = .ok (.iload_n 1, 1)) ∧ (decode cX10_isMeeting 14 = .ok (.iconst 1, 1)) ∧ (decode cX10_isMeeting 15 = .ok (.iadd, 1)) ∧ (decode cX10_isMeeting 16 = .ok (.istore_n 2, 1)) ∧ (decode cX10_isMeeting 17 = .ok (.iload_n 2, 1)) ∧ True := dkW [(0, .iconst 0, 1), (1, .istore_n 1, 1), (2, .iload_n 1, 1), (3, .aload_n 0, 1), (4, .getfield 21, 3), (7, .getfield 94, 3), (10, .if_icmp .ge 66, 3), (13, .iload_n 1, 1), (14, .iconst 1, 1), (15, .iadd, 1), (16, .istore_n 2, 1), (17, .iload_n 2, 1)] 0 (by decide +kernel)
theorem dX10_isMeeting_0 : decode cX10_isMeeting 0 = .ok (.iconst 0, 1) := dgX10_isMeeting_0.1
theorem dX10_isMeeting_1 : decode cX10_isMeeting 1 = .ok (.istore_n 1, 1) := dgX10_isMeeting_0.2.1
theorem dX10_isMeeting_2 : decode cX10_isMeeting 2 = .ok (.iload_n 1, 1) := dgX10_isMeeting_0.2.2.1
theorem dX10_isMeeting_3 : decode cX10_isMeeting 3 = .ok (.aload_n 0, 1) := dgX10_isMeeting_0.2.2.2.1
theorem dX10_isMeeting_4 : decode cX10_isMeeting 4 = .ok (.getfield 21, 3) := dgX10_isMeeting_0.2.2.2.2.1
theorem dX10_isMeeting_7 : decode cX10_isMeeting 7 = .ok (.getfield 94, 3) := dgX10_isMeeting_0.2.2.2.2.2.1
theorem dX10_isMeeting_10 : decode cX10_isMeeting 10 = .ok (.if_icmp .ge 66, 3) := dgX10_isMeeting_0.2.2.2.2.2.2.1
theorem dX10_isMeeting_13 : decode cX10_isMeeting 13 = .ok (.iload_n 1, 1) := dgX10_isMeeting_0.2.2.2.2.2.2.2.1
theorem dX10_isMeeting_14 : decode cX10_isMeeting 14 = .ok (.iconst 1, 1) := dgX10_isMeeting_0.2.2.2.2.2.2.2.2.1
theorem dX10_isMeeting_15 : decode cX10_isMeeting 15 = .ok (.iadd, 1) := dgX10_isMeeting_0.2.2.2.2.2.2.2.2.2.1
theorem dX10_isMeeting_16 : decode cX10_isMeeting 16 = .ok (.istore_n 2, 1) := dgX10_isMeeting_0.2.2.2.2.2.2.2.2.2.2.1
theorem dX10_isMeeting_17 : decode cX10_isMeeting 17 = .ok (.iload_n 2, 1) := dgX10_isMeeting_0.2.2.2.2.2.2.2.2.2.2.2.1
theorem dgX10_isMeeting_18 : (decode cX10_isMeeting 18 = .ok (.aload_n 0, 1)) ∧ (decode cX10_isMeeting 19 = .ok (.getfield 21, 3)) ∧ (decode cX10_isMeeting 22 = .ok (.getfield 94, 3)) ∧ (decode cX10_isMeeting 25 = .ok (.if_icmp .ge 45, 3)) ∧ (decode cX10_isMeeting 28 = .ok (.aload_n 0, 1)) ∧ (decode cX10_isMeeting 29 = .ok (.getfield 21, 3)) ∧ (decode cX10_isMeeting 32 = .ok (.getfield 97, 3)) ∧ (decode cX10_isMeeting 35 = .ok (.iload_n 1, 1)) ∧ (decode cX10_isMeeting 36 = .ok (.aaload, 1)) ∧ (decode cX10_isMeeting 37 = .ok (.aload_n 0, 1)) ∧ (decode cX10_isMeeting 38 = .ok (.getfield 21, 3)) ∧ (decode cX10_isMeeting 41 = .ok (.getfield 97, 3)) ∧ True := dkW [(18, .aload_n 0, 1), (19, .getfield 21, 3), (22, .getfield 94, 3), (25, .if_icmp .ge 45, 3), (28, .aload_n 0, 1), (29, .getfield 21, 3), (32, .getfield 97, 3), (35, .iload_n 1, 1), (36, .aaload, 1), (37, .aload_n 0, 1), (38, .getfield 21, 3), (41, .getfield 97, 3)] 18 (by decide +kernel)
theorem dX10_isMeeting_18 : decode cX10_isMeeting 18 = .ok (.aload_n 0, 1) := dgX10_isMeeting_18.1
theorem dX10_isMeeting_19 : decode cX10_isMeeting 19 = .ok (.getfield 21, 3) := dgX10_isMeeting_18.2.1
theorem dX10_isMeeting_22 : decode cX10_isMeeting 22 = .ok (.getfield 94, 3) := dgX10_isMeeting_18.2.2.1
theorem dX10_isMeeting_25 : decode cX10_isMeeting 25 = .ok (.if_icmp .ge 45, 3) := dgX10_isMeeting_18.2.2.2.1
theorem dX10_isMeeting_28 : decode cX10_isMeeting 28 = .ok (.aload_n 0, 1) := dgX10_isMeeting_18.2.2.2.2.1
theorem dX10_isMeeting_29 : decode cX10_isMeeting 29 = .ok (.getfield 21, 3) := dgX10_isMeeting_18.2.2.2.2.2.1
theorem dX10_isMeeting_32 : decode cX10_isMeeting 32 = .ok (.getfield 97, 3) := dgX10_isMeeting_18.2.2.2.2.2.2.1
theorem dX10_isMeeting_35 : decode cX10_isMeeting 35 = .ok (.iload_n 1, 1) := dgX10_isMeeting_18.2.2.2.2.2.2.2.1
theorem dX10_isMeeting_36 : decode cX10_isMeeting 36 = .ok (.aaload, 1) := dgX10_isMeeting_18.2.2.2.2.2.2.2.2.1
theorem dX10_isMeeting_37 : decode cX10_isMeeting 37 = .ok (.aload_n 0, 1) := dgX10_isMeeting_18.2.2.2.2.2.2.2.2.2.1
theorem dX10_isMeeting_38 : decode cX10_isMeeting 38 = .ok (.getfield 21, 3) := dgX10_isMeeting_18.2.2.2.2.2.2.2.2.2.2.1
theorem dX10_isMeeting_41 : decode cX10_isMeeting 41 = .ok (.getfield 97, 3) := dgX10_isMeeting_18.2.2.2.2.2.2.2.2.2.2.2.1
theorem dgX10_isMeeting_44 : (decode cX10_isMeeting 44 = .ok (.iload_n 2, 1)) ∧ (decode cX10_isMeeting 45 = .ok (.aaload, 1)) ∧ (decode cX10_isMeeting 46 = .ok (.invokevirtual 116, 3)) ∧ (decode cX10_isMeeting 49 = .ok (.ifCond .eq 15, 3)) ∧ (decode cX10_isMeeting 52 = .ok (.aload_n 0, 1)) ∧ (decode cX10_isMeeting 53 = .ok (.getfield 18, 3)) ∧ (decode cX10_isMeeting 56 = .ok (.iconst 2, 1)) ∧ (decode cX10_isMeeting 57 = .ok (.iload_n 1, 1)) ∧ (decode cX10_isMeeting 58 = .ok (.iload_n 2, 1)) ∧ (decode cX10_isMeeting 59 = .ok (.invokevirtual 39, 3)) ∧ (decode cX10_isMeeting 62 = .ok (.iconst 1, 1)) ∧ (decode cX10_isMeeting 63 = .ok (.ireturn, 1)) ∧ True := dkW [(44, .iload_n 2, 1), (45, .aaload, 1), (46, .invokevirtual 116, 3), (49, .ifCond .eq 15, 3), (52, .aload_n 0, 1), (53, .getfield 18, 3), (56, .iconst 2, 1), (57, .iload_n 1, 1), (58, .iload_n 2, 1), (59, .invokevirtual 39, 3), (62, .iconst 1, 1), (63, .ireturn, 1)] 44 (by decide +kernel)
theorem dX10_isMeeting_44 : decode cX10_isMeeting 44 = .ok (.iload_n 2, 1) := dgX10_isMeeting_44.1
theorem dX10_isMeeting_45 : decode cX10_isMeeting 45 = .ok (.aaload, 1) := dgX10_isMeeting_44.2.1
theorem dX10_isMeeting_46 : decode cX10_isMeeting 46 = .ok (.invokevirtual 116, 3) := dgX10_isMeeting_44.2.2.1
theorem dX10_isMeeting_49 : decode cX10_isMeeting 49 = .ok (.ifCond .eq 15, 3) := dgX10_isMeeting_44.2.2.2.1
theorem dX10_isMeeting_52 : decode cX10_isMeeting 52 = .ok (.aload_n 0, 1) := dgX10_isMeeting_44.2.2.2.2.1
theorem dX10_isMeeting_53 : decode cX10_isMeeting 53 = .ok (.getfield 18, 3) := dgX10_isMeeting_44.2.2.2.2.2.1
theorem dX10_isMeeting_56 : decode cX10_isMeeting 56 = .ok (.iconst 2, 1) := dgX10_isMeeting_44.2.2.2.2.2.2.1
theorem dX10_isMeeting_57 : decode cX10_isMeeting 57 = .ok (.iload_n 1, 1) := dgX10_isMeeting_44.2.2.2.2.2.2.2.1
theorem dX10_isMeeting_58 : decode cX10_isMeeting 58 = .ok (.iload_n 2, 1) := dgX10_isMeeting_44.2.2.2.2.2.2.2.2.1
theorem dX10_isMeeting_59 : decode cX10_isMeeting 59 = .ok (.invokevirtual 39, 3) := dgX10_isMeeting_44.2.2.2.2.2.2.2.2.2.1
theorem dX10_isMeeting_62 : decode cX10_isMeeting 62 = .ok (.iconst 1, 1) := dgX10_isMeeting_44.2.2.2.2.2.2.2.2.2.2.1
theorem dX10_isMeeting_63 : decode cX10_isMeeting 63 = .ok (.ireturn, 1) := dgX10_isMeeting_44.2.2.2.2.2.2.2.2.2.2.2.1
theorem dgX10_isMeeting_64 : (decode cX10_isMeeting 64 = .ok (.iinc 2 1, 3)) ∧ (decode cX10_isMeeting 67 = .ok (.goto (-50), 3)) ∧ (decode cX10_isMeeting 70 = .ok (.iinc 1 1, 3)) ∧ (decode cX10_isMeeting 73 = .ok (.goto (-71), 3)) ∧ (decode cX10_isMeeting 76 = .ok (.iconst 0, 1)) ∧ (decode cX10_isMeeting 77 = .ok (.ireturn, 1)) ∧ True := dkW [(64, .iinc 2 1, 3), (67, .goto (-50), 3), (70, .iinc 1 1, 3), (73, .goto (-71), 3), (76, .iconst 0, 1), (77, .ireturn, 1)] 64 (by decide +kernel)
theorem dX10_isMeeting_64 : decode cX10_isMeeting 64 = .ok (.iinc 2 1, 3) := dgX10_isMeeting_64.1
theorem dX10_isMeeting_67 : decode cX10_isMeeting 67 = .ok (.goto (-50), 3) := dgX10_isMeeting_64.2.1
theorem dX10_isMeeting_70 : decode cX10_isMeeting 70 = .ok (.iinc 1 1, 3) := dgX10_isMeeting_64.2.2.1
theorem dX10_isMeeting_73 : decode cX10_isMeeting 73 = .ok (.goto (-71), 3) := dgX10_isMeeting_64.2.2.2.1
theorem dX10_isMeeting_76 : decode cX10_isMeeting 76 = .ok (.iconst 0, 1) := dgX10_isMeeting_64.2.2.2.2.1
theorem dX10_isMeeting_77 : decode cX10_isMeeting 77 = .ok (.ireturn, 1) := dgX10_isMeeting_64.2.2.2.2.2.1
abbrev rmX10_isMeeting : Room := { frames := 2, cells := 0, slots := 0, locals := 44 }
noncomputable def fX10_isMeeting_b17_body (N : Nat) (g2 : Hs → Int32 → Option (Int32 × Hs)) (g17 : Hs → Int32 → Int32 → Option (Int32 × Hs)) (t : Nat) (h : Hs) (x1 : Int32) (x2 : Int32) : Option (Int32 × Hs) :=
  (oR 10 0 h (some t)).bind fun o1 =>
  (oI 5 7 h o1).bind fun v2 =>
  if v2 ≤ x2 then (
  (some (x1 + 1)).bind fun y3 =>
  g2 h y3)
  else (oR 10 0 h (some t)).bind fun o4 =>
  (oR 5 0 h o4).bind fun o5 =>
  (lQ 23 h o5 x1).bind fun o6 =>
  (oR 10 0 h (some t)).bind fun o7 =>
  (oR 5 0 h o7).bind fun o8 =>
  (lQ 23 h o8 x2).bind fun o9 =>
  (rc 9 h o6).bind fun a11 =>
  (fX9_wouldMeet N h a11 o9).bind fun r10 =>
  if r10.1 = 0 then (
  (some (x2 + 1)).bind fun y12 =>
  g17 r10.2 x1 y12)
  else (oR 10 2 r10.2 (some t)).bind fun o13 =>
  (rc 7 r10.2 o13).bind fun a15 =>
  (fX7_put N r10.2 a15 2 x1 x2).bind fun r14 =>
  some (1, r14)
noncomputable def fX10_isMeeting_b17 (N : Nat) (g2 : Hs → Int32 → Option (Int32 × Hs)) (t : Nat) (n : Nat) : Hs → Int32 → Int32 → Option (Int32 × Hs) := lp (fun _ _ _ => none) (fun g h x1 x2 => fX10_isMeeting_b17_body N g2 g t h x1 x2) n
set_option maxHeartbeats 4000000 in
set_option maxRecDepth 20000 in
theorem wX10_isMeeting_b17_body {p : Program} {l : Launch} {e : Env} {s : State} {m : MethodId} {args : Array Value} {below : List Frame} {meth : Method} {c : Code} {G : Gl} {N : Nat} {h : Hs} {r : Int32 × Hs} {g2 : Hs → Int32 → Option (Int32 × Hs)} {g17 : Hs → Int32 → Int32 → Option (Int32 × Hs)} {t : Nat} {x1 : Int32} {x2 : Int32} (C : Cx p s m args meth c cX10_isMeeting RX10 3 G) (hret : meth.sig.returnType = (some .boolean)) (hg2 : ∀ (h : Hs) (x1 : Int32), g2 h x1 = some r → V p l e rmX10_isMeeting s m args below meth c G 3 (MQ below (QcG G (some (.inl r.1)) r.2) args s rmX10_isMeeting.cells rmX10_isMeeting.slots (AG G)) h 0 0 2 [some (.inr (some t)), some (.inl x1), none] []) (hg17 : ∀ (h : Hs) (x1 : Int32) (x2 : Int32), g17 h x1 x2 = some r → V p l e rmX10_isMeeting s m args below meth c G 3 (MQ below (QcG G (some (.inl r.1)) r.2) args s rmX10_isMeeting.cells rmX10_isMeeting.slots (AG G)) h 0 0 17 [some (.inr (some t)), some (.inl x1), some (.inl x2)] []) (hf : fX10_isMeeting_b17_body N g2 g17 t h x1 x2 = some r) : V p l e rmX10_isMeeting s m args below meth c G 3 (MQ below (QcG G (some (.inl r.1)) r.2) args s rmX10_isMeeting.cells rmX10_isMeeting.slots (AG G)) h 0 0 17 [some (.inr (some t)), some (.inl x1), some (.inl x2)] [] := by
  unfold fX10_isMeeting_b17_body at hf
  refine r_iload_n C dX10_isMeeting_17 rfl ?_
  refine r_aload_n C dX10_isMeeting_18 rfl ?_
  obtain ⟨o1, eo1, hf⟩ := bS hf
  refine r_getR C dX10_isMeeting_19 fl_X10_21 rfl eo1 ?_
  obtain ⟨v2, ev2, hf⟩ := bS hf
  refine r_getI C dX10_isMeeting_22 fl_X10_94 rfl ev2 ?_
  refine r_icmp_ge (tgt := 70) C dX10_isMeeting_25 (by decide) (fun hc => ?_) (fun hc => ?_)
  · have hf := ifT hf hc
    obtain ⟨y3, ey3, hf⟩ := bS hf
    refine r_iincE (v := 1) C dX10_isMeeting_70 rfl (by decide) (by decide) ey3 ?_
    refine r_goto (tgt := 2) C dX10_isMeeting_73 (by decide) ?_
    exact V.sub (hg2 _ _ hf) (LW_s rfl (LW_s rfl (LW_n (LW_e))))
  · have hf := ifF hf hc
    refine r_aload_n C dX10_isMeeting_28 rfl ?_
    obtain ⟨o4, eo4, hf⟩ := bS hf
    refine r_getR C dX10_isMeeting_29 fl_X10_21 rfl eo4 ?_
    obtain ⟨o5, eo5, hf⟩ := bS hf
    refine r_getR C dX10_isMeeting_32 fl_X10_97 rfl eo5 ?_
    refine r_iload_n C dX10_isMeeting_35 rfl ?_
    obtain ⟨o6, eo6, hf⟩ := bS hf
    refine r_qald (t := 3) C dX10_isMeeting_36 (by decide) (by decide) rfl eo6 ?_
    refine r_aload_n C dX10_isMeeting_37 rfl ?_
    obtain ⟨o7, eo7, hf⟩ := bS hf
    refine r_getR C dX10_isMeeting_38 fl_X10_21 rfl eo7 ?_
    obtain ⟨o8, eo8, hf⟩ := bS hf
    refine r_getR C dX10_isMeeting_41 fl_X10_97 rfl eo8 ?_
    refine r_iload_n C dX10_isMeeting_44 rfl ?_
    obtain ⟨o9, eo9, hf⟩ := bS hf
    refine r_qald (t := 3) C dX10_isMeeting_45 (by decide) (by decide) rfl eo9 ?_
    obtain ⟨a11, ea11, hf⟩ := bS hf
    obtain ⟨r10, er10, hf⟩ := bS hf
    refine r_invV1 (As := [.inr o9]) (ci := 9) C dX10_isMeeting_46 mcX9_wouldMeet wd_615 wd_616 wd_617 rfl rfl (by decide) ⟨by decide, by decide⟩ ⟨by decide, by decide⟩ rfl (Nat.le_of_ble_eq_true rfl) ea11 (kX9_wouldMeet l G er10) ?_
    refine r_if_eq (tgt := 64) C dX10_isMeeting_49 (by decide) (fun hc => ?_) (fun hc => ?_)
    · have hf := ifT hf hc
      obtain ⟨y12, ey12, hf⟩ := bS hf
      refine r_iincE (v := 1) C dX10_isMeeting_64 rfl (by decide) (by decide) ey12 ?_
      refine r_goto (tgt := 17) C dX10_isMeeting_67 (by decide) ?_
      exact V.sub (hg17 _ _ _ hf) (LW_s rfl (LW_s rfl (LW_s rfl (LW_e))))
    · have hf := ifF hf hc
      refine r_aload_n C dX10_isMeeting_52 rfl ?_
      obtain ⟨o13, eo13, hf⟩ := bS hf
      refine r_getR C dX10_isMeeting_53 fl_X10_18 rfl eo13 ?_
      refine r_iconst (v := 2) C dX10_isMeeting_56 (by decide) ?_
      refine r_iload_n C dX10_isMeeting_57 rfl ?_
      refine r_iload_n C dX10_isMeeting_58 rfl ?_
      obtain ⟨a15, ea15, hf⟩ := bS hf
      obtain ⟨r14, er14, hf⟩ := bS hf
      refine r_invV0 (As := [.inl 2, .inl x1, .inl x2]) (ci := 7) C dX10_isMeeting_59 mcX7_put wd_601 wd_602 wd_603 rfl rfl (by decide) ⟨by decide, by decide⟩ ⟨by decide, by decide⟩ rfl (Nat.le_of_ble_eq_true rfl) ea15 (kX7_put l G er14) ?_
      refine r_iconst (v := 1) C dX10_isMeeting_62 (by decide) ?_
      exact r_zretF C dX10_isMeeting_63 hret (z := 1) rfl hf (by decide) (by decide)
theorem wX10_isMeeting_b17 {p : Program} {l : Launch} {e : Env} {s : State} {m : MethodId} {args : Array Value} {below : List Frame} {meth : Method} {c : Code} {G : Gl} {N : Nat} {r : Int32 × Hs} {g2 : Hs → Int32 → Option (Int32 × Hs)} {t : Nat} (C : Cx p s m args meth c cX10_isMeeting RX10 3 G) (hret : meth.sig.returnType = (some .boolean)) (hg2 : ∀ (h : Hs) (x1 : Int32), g2 h x1 = some r → V p l e rmX10_isMeeting s m args below meth c G 3 (MQ below (QcG G (some (.inl r.1)) r.2) args s rmX10_isMeeting.cells rmX10_isMeeting.slots (AG G)) h 0 0 2 [some (.inr (some t)), some (.inl x1), none] []) : ∀ (n : Nat) (h : Hs) (x1 : Int32) (x2 : Int32), fX10_isMeeting_b17 N g2 t n h x1 x2 = some r → V p l e rmX10_isMeeting s m args below meth c G 3 (MQ below (QcG G (some (.inl r.1)) r.2) args s rmX10_isMeeting.cells rmX10_isMeeting.slots (AG G)) h 0 0 17 [some (.inr (some t)), some (.inl x1), some (.inl x2)] [] := by
  intro n
  induction n with
  | zero => intro h x1 x2 hf; exact absurd (show (none : Option (Int32 × Hs)) = some r from hf) (fun q => by cases q)
  | succ n ih => intro h x1 x2 hf; exact wX10_isMeeting_b17_body C hret hg2 ih (show fX10_isMeeting_b17_body N g2 (fX10_isMeeting_b17 N g2 t n) t h x1 x2 = some r from hf)
noncomputable def fX10_isMeeting_b2_body (N : Nat)  (g2 : Hs → Int32 → Option (Int32 × Hs)) (t : Nat) (h : Hs) (x1 : Int32) : Option (Int32 × Hs) :=
  (oR 10 0 h (some t)).bind fun o1 =>
  (oI 5 7 h o1).bind fun v2 =>
  if v2 ≤ x1 then (
  some (0, h))
  else (some (x1 + 1)).bind fun y3 =>
  fX10_isMeeting_b17 N g2 t N h x1 y3
noncomputable def fX10_isMeeting_b2 (N : Nat)  (t : Nat) (n : Nat) : Hs → Int32 → Option (Int32 × Hs) := lp (fun _ _ => none) (fun g h x1 => fX10_isMeeting_b2_body N  g t h x1) n
set_option maxHeartbeats 4000000 in
set_option maxRecDepth 20000 in
theorem wX10_isMeeting_b2_body {p : Program} {l : Launch} {e : Env} {s : State} {m : MethodId} {args : Array Value} {below : List Frame} {meth : Method} {c : Code} {G : Gl} {N : Nat} {h : Hs} {r : Int32 × Hs}  {g2 : Hs → Int32 → Option (Int32 × Hs)} {t : Nat} {x1 : Int32} (C : Cx p s m args meth c cX10_isMeeting RX10 3 G) (hret : meth.sig.returnType = (some .boolean))  (hg2 : ∀ (h : Hs) (x1 : Int32), g2 h x1 = some r → V p l e rmX10_isMeeting s m args below meth c G 3 (MQ below (QcG G (some (.inl r.1)) r.2) args s rmX10_isMeeting.cells rmX10_isMeeting.slots (AG G)) h 0 0 2 [some (.inr (some t)), some (.inl x1), none] []) (hf : fX10_isMeeting_b2_body N  g2 t h x1 = some r) : V p l e rmX10_isMeeting s m args below meth c G 3 (MQ below (QcG G (some (.inl r.1)) r.2) args s rmX10_isMeeting.cells rmX10_isMeeting.slots (AG G)) h 0 0 2 [some (.inr (some t)), some (.inl x1), none] [] := by
  unfold fX10_isMeeting_b2_body at hf
  refine r_iload_n C dX10_isMeeting_2 rfl ?_
  refine r_aload_n C dX10_isMeeting_3 rfl ?_
  obtain ⟨o1, eo1, hf⟩ := bS hf
  refine r_getR C dX10_isMeeting_4 fl_X10_21 rfl eo1 ?_
  obtain ⟨v2, ev2, hf⟩ := bS hf
  refine r_getI C dX10_isMeeting_7 fl_X10_94 rfl ev2 ?_
  refine r_icmp_ge (tgt := 76) C dX10_isMeeting_10 (by decide) (fun hc => ?_) (fun hc => ?_)
  · have hf := ifT hf hc
    refine r_iconst (v := 0) C dX10_isMeeting_76 (by decide) ?_
    exact r_zretF C dX10_isMeeting_77 hret (z := 0) rfl hf (by decide) (by decide)
  · have hf := ifF hf hc
    refine r_iload_n C dX10_isMeeting_13 rfl ?_
    refine r_iconst (v := 1) C dX10_isMeeting_14 (by decide) ?_
    refine r_iadd C dX10_isMeeting_15 ?_
    obtain ⟨y3, ey3, hf⟩ := bS hf
    refine r_istore_nE C dX10_isMeeting_16 (by decide) ey3 ?_
    exact V.sub (wX10_isMeeting_b17 C hret hg2 N _ _ _ hf) (LW_s rfl (LW_s rfl (LW_s rfl (LW_e))))
theorem wX10_isMeeting_b2 {p : Program} {l : Launch} {e : Env} {s : State} {m : MethodId} {args : Array Value} {below : List Frame} {meth : Method} {c : Code} {G : Gl} {N : Nat} {r : Int32 × Hs}  {t : Nat} (C : Cx p s m args meth c cX10_isMeeting RX10 3 G) (hret : meth.sig.returnType = (some .boolean))  : ∀ (n : Nat) (h : Hs) (x1 : Int32), fX10_isMeeting_b2 N  t n h x1 = some r → V p l e rmX10_isMeeting s m args below meth c G 3 (MQ below (QcG G (some (.inl r.1)) r.2) args s rmX10_isMeeting.cells rmX10_isMeeting.slots (AG G)) h 0 0 2 [some (.inr (some t)), some (.inl x1), none] [] := by
  intro n
  induction n with
  | zero => intro h x1 hf; exact absurd (show (none : Option (Int32 × Hs)) = some r from hf) (fun q => by cases q)
  | succ n ih => intro h x1 hf; exact wX10_isMeeting_b2_body C hret  ih (show fX10_isMeeting_b2_body N  (fX10_isMeeting_b2 N  t n) t h x1 = some r from hf)
noncomputable def fX10_isMeeting (N : Nat) (h : Hs) (t : Nat)  : Option (Int32 × Hs) :=
  fX10_isMeeting_b2 N t N h 0
set_option maxHeartbeats 4000000 in
set_option maxRecDepth 20000 in
theorem kX10_isMeeting (l : Launch) (G : Gl) {N : Nat} {h : Hs} {t : Nat}  {r : Int32 × Hs} (hf : fX10_isMeeting N h t  = some r) : CT l G yX10_isMeeting cX10_isMeeting 3 (some .boolean) rmX10_isMeeting [.inr (some t)] h (some (.inl r.1)) r.2 := by
  refine mk_CT (by decide) (Nat.le_of_ble_eq_true rfl) ?_
  intro p e s m args below meth c C hret hin
  unfold fX10_isMeeting at hf
  refine r_iconst (v := 0) C dX10_isMeeting_0 (by decide) ?_
  refine r_istore_n C dX10_isMeeting_1 (by decide) ?_
  exact V.sub (wX10_isMeeting_b2 C hret N _ _ hf) (LW_s rfl (LW_s rfl (LW_n (LW_e))))

theorem dgX10_isUneven_0 : (decode cX10_isUneven 0 = .ok (.iload_n 1, 1)) ∧ (decode cX10_isUneven 1 = .ok (.invokestatic 49, 3)) ∧ (decode cX10_isUneven 4 = .ok (.aload_n 0, 1)) ∧ (decode cX10_isUneven 5 = .ok (.getfield 21, 3)) ∧ (decode cX10_isUneven 8 = .ok (.getfield 120, 3)) ∧ (decode cX10_isUneven 11 = .ok (.if_icmp .gt 5, 3)) ∧ (decode cX10_isUneven 14 = .ok (.iconst 0, 1)) ∧ (decode cX10_isUneven 15 = .ok (.ireturn, 1)) ∧ (decode cX10_isUneven 16 = .ok (.aload_n 0, 1)) ∧ (decode cX10_isUneven 17 = .ok (.getfield 18, 3)) ∧ (decode cX10_isUneven 20 = .ok (.iconst 3, 1)) ∧ True := dkW [(0, .iload_n 1, 1), (1, .invokestatic 49, 3), (4, .aload_n 0, 1), (5, .getfield 21, 3), (8, .getfield 120, 3), (11, .if_icmp .gt 5, 3), (14, .iconst 0, 1), (15, .ireturn, 1), (16, .aload_n 0, 1), (17, .getfield 18, 3), (20, .iconst 3, 1)] 0 (by decide +kernel)
theorem dX10_isUneven_0 : decode cX10_isUneven 0 = .ok (.iload_n 1, 1) := dgX10_isUneven_0.1
theorem dX10_isUneven_1 : decode cX10_isUneven 1 = .ok (.invokestatic 49, 3) := dgX10_isUneven_0.2.1
theorem dX10_isUneven_4 : decode cX10_isUneven 4 = .ok (.aload_n 0, 1) := dgX10_isUneven_0.2.2.1
theorem dX10_isUneven_5 : decode cX10_isUneven 5 = .ok (.getfield 21, 3) := dgX10_isUneven_0.2.2.2.1
theorem dX10_isUneven_8 : decode cX10_isUneven 8 = .ok (.getfield 120, 3) := dgX10_isUneven_0.2.2.2.2.1
theorem dX10_isUneven_11 : decode cX10_isUneven 11 = .ok (.if_icmp .gt 5, 3) := dgX10_isUneven_0.2.2.2.2.2.1
theorem dX10_isUneven_14 : decode cX10_isUneven 14 = .ok (.iconst 0, 1) := dgX10_isUneven_0.2.2.2.2.2.2.1
theorem dX10_isUneven_15 : decode cX10_isUneven 15 = .ok (.ireturn, 1) := dgX10_isUneven_0.2.2.2.2.2.2.2.1
theorem dX10_isUneven_16 : decode cX10_isUneven 16 = .ok (.aload_n 0, 1) := dgX10_isUneven_0.2.2.2.2.2.2.2.2.1
theorem dX10_isUneven_17 : decode cX10_isUneven 17 = .ok (.getfield 18, 3) := dgX10_isUneven_0.2.2.2.2.2.2.2.2.2.1
theorem dX10_isUneven_20 : decode cX10_isUneven 20 = .ok (.iconst 3, 1) := dgX10_isUneven_0.2.2.2.2.2.2.2.2.2.2.1
theorem dX10_isUneven_21 : decode cX10_isUneven 21 = .ok (.iconst (-1), 1) := by decide +kernel
theorem dX10_isUneven_22 : decode cX10_isUneven 22 = .ok (.iconst (-1), 1) := by decide +kernel
theorem dgX10_isUneven_23 : (decode cX10_isUneven 23 = .ok (.invokevirtual 39, 3)) ∧ (decode cX10_isUneven 26 = .ok (.iconst 1, 1)) ∧ (decode cX10_isUneven 27 = .ok (.ireturn, 1)) ∧ True := dkW [(23, .invokevirtual 39, 3), (26, .iconst 1, 1), (27, .ireturn, 1)] 23 (by decide +kernel)
theorem dX10_isUneven_23 : decode cX10_isUneven 23 = .ok (.invokevirtual 39, 3) := dgX10_isUneven_23.1
theorem dX10_isUneven_26 : decode cX10_isUneven 26 = .ok (.iconst 1, 1) := dgX10_isUneven_23.2.1
theorem dX10_isUneven_27 : decode cX10_isUneven 27 = .ok (.ireturn, 1) := dgX10_isUneven_23.2.2.1
abbrev rmX10_isUneven : Room := { frames := 1, cells := 0, slots := 0, locals := 23 }
noncomputable def fX10_isUneven (N : Nat) (h : Hs) (t : Nat) (p1 : Int32) : Option (Int32 × Hs) :=
  (oR 10 0 h (some t)).bind fun o1 =>
  (oI 5 10 h o1).bind fun v2 =>
  if v2 < (if 0 ≤ p1 then p1 else 0 - p1 : Int32) then (
  (oR 10 2 h (some t)).bind fun o3 =>
  (rc 7 h o3).bind fun a5 =>
  (fX7_put N h a5 3 (-1) (-1)).bind fun r4 =>
  some (1, r4))
  else some (0, h)
set_option maxHeartbeats 4000000 in
set_option maxRecDepth 20000 in
theorem kX10_isUneven (l : Launch) (G : Gl) {N : Nat} {h : Hs} {t : Nat} {p1 : Int32} {r : Int32 × Hs} (hf : fX10_isUneven N h t p1 = some r) : CT l G yX10_isUneven cX10_isUneven 2 (some .boolean) rmX10_isUneven [.inr (some t), .inl p1] h (some (.inl r.1)) r.2 := by
  refine mk_CT (by decide) (Nat.le_of_ble_eq_true rfl) ?_
  intro p e s m args below meth c C hret hin
  unfold fX10_isUneven at hf
  refine r_iload_n C dX10_isUneven_0 rfl ?_
  refine r_mabs C dX10_isUneven_1 ⟨wd_598, wd_599, wd_14, wd_600⟩ (by decide) (Nat.le_of_ble_eq_true rfl) (by decide) (by decide) ?_
  refine r_aload_n C dX10_isUneven_4 rfl ?_
  obtain ⟨o1, eo1, hf⟩ := bS hf
  refine r_getR C dX10_isUneven_5 fl_X10_21 rfl eo1 ?_
  obtain ⟨v2, ev2, hf⟩ := bS hf
  refine r_getI C dX10_isUneven_8 fl_X10_120 rfl ev2 ?_
  refine r_icmp_gt (tgt := 16) C dX10_isUneven_11 (by decide) (fun hc => ?_) (fun hc => ?_)
  · have hf := ifT hf hc
    refine r_aload_n C dX10_isUneven_16 rfl ?_
    obtain ⟨o3, eo3, hf⟩ := bS hf
    refine r_getR C dX10_isUneven_17 fl_X10_18 rfl eo3 ?_
    refine r_iconst (v := 3) C dX10_isUneven_20 (by decide) ?_
    refine r_iconst (v := -1) C dX10_isUneven_21 (by decide) ?_
    refine r_iconst (v := -1) C dX10_isUneven_22 (by decide) ?_
    obtain ⟨a5, ea5, hf⟩ := bS hf
    obtain ⟨r4, er4, hf⟩ := bS hf
    refine r_invV0 (As := [.inl 3, .inl (-1), .inl (-1)]) (ci := 7) C dX10_isUneven_23 mcX7_put wd_601 wd_602 wd_603 rfl rfl (by decide) ⟨by decide, by decide⟩ ⟨by decide, by decide⟩ rfl (Nat.le_of_ble_eq_true rfl) ea5 (kX7_put l G er4) ?_
    refine r_iconst (v := 1) C dX10_isUneven_26 (by decide) ?_
    exact r_zretF C dX10_isUneven_27 hret (z := 1) rfl hf (by decide) (by decide)
  · have hf := ifF hf hc
    refine r_iconst (v := 0) C dX10_isUneven_14 (by decide) ?_
    exact r_zretF C dX10_isUneven_15 hret (z := 0) rfl hf (by decide) (by decide)

theorem dgX10_stepsToNextMove_0 : (decode cX10_stepsToNextMove 0 = .ok (.sipush 9999, 3)) ∧ (decode cX10_stepsToNextMove 3 = .ok (.istore_n 3, 1)) ∧ (decode cX10_stepsToNextMove 4 = .ok (.iconst 0, 1)) ∧ (decode cX10_stepsToNextMove 5 = .ok (.istore 4, 2)) ∧ (decode cX10_stepsToNextMove 7 = .ok (.iload 4, 2)) ∧ (decode cX10_stepsToNextMove 9 = .ok (.aload_n 0, 1)) ∧ (decode cX10_stepsToNextMove 10 = .ok (.getfield 21, 3)) ∧ (decode cX10_stepsToNextMove 13 = .ok (.getfield 79, 3)) ∧ (decode cX10_stepsToNextMove 16 = .ok (.if_icmp .ge 29, 3)) ∧ (decode cX10_stepsToNextMove 19 = .ok (.iload_n 3, 1)) ∧ (decode cX10_stepsToNextMove 20 = .ok (.aload_n 0, 1)) ∧ (decode cX10_stepsToNextMove 21 = .ok (.getfield 21, 3)) ∧ True := dkW [(0, .sipush 9999, 3), (3, .istore_n 3, 1), (4, .iconst 0, 1), (5, .istore 4, 2), (7, .iload 4, 2), (9, .aload_n 0, 1), (10, .getfield 21, 3), (13, .getfield 79, 3), (16, .if_icmp .ge 29, 3), (19, .iload_n 3, 1), (20, .aload_n 0, 1), (21, .getfield 21, 3)] 0 (by decide +kernel)
theorem dX10_stepsToNextMove_0 : decode cX10_stepsToNextMove 0 = .ok (.sipush 9999, 3) := dgX10_stepsToNextMove_0.1
theorem dX10_stepsToNextMove_3 : decode cX10_stepsToNextMove 3 = .ok (.istore_n 3, 1) := dgX10_stepsToNextMove_0.2.1
theorem dX10_stepsToNextMove_4 : decode cX10_stepsToNextMove 4 = .ok (.iconst 0, 1) := dgX10_stepsToNextMove_0.2.2.1
theorem dX10_stepsToNextMove_5 : decode cX10_stepsToNextMove 5 = .ok (.istore 4, 2) := dgX10_stepsToNextMove_0.2.2.2.1
theorem dX10_stepsToNextMove_7 : decode cX10_stepsToNextMove 7 = .ok (.iload 4, 2) := dgX10_stepsToNextMove_0.2.2.2.2.1
theorem dX10_stepsToNextMove_9 : decode cX10_stepsToNextMove 9 = .ok (.aload_n 0, 1) := dgX10_stepsToNextMove_0.2.2.2.2.2.1
theorem dX10_stepsToNextMove_10 : decode cX10_stepsToNextMove 10 = .ok (.getfield 21, 3) := dgX10_stepsToNextMove_0.2.2.2.2.2.2.1
theorem dX10_stepsToNextMove_13 : decode cX10_stepsToNextMove 13 = .ok (.getfield 79, 3) := dgX10_stepsToNextMove_0.2.2.2.2.2.2.2.1
theorem dX10_stepsToNextMove_16 : decode cX10_stepsToNextMove 16 = .ok (.if_icmp .ge 29, 3) := dgX10_stepsToNextMove_0.2.2.2.2.2.2.2.2.1
theorem dX10_stepsToNextMove_19 : decode cX10_stepsToNextMove 19 = .ok (.iload_n 3, 1) := dgX10_stepsToNextMove_0.2.2.2.2.2.2.2.2.2.1
theorem dX10_stepsToNextMove_20 : decode cX10_stepsToNextMove 20 = .ok (.aload_n 0, 1) := dgX10_stepsToNextMove_0.2.2.2.2.2.2.2.2.2.2.1
theorem dX10_stepsToNextMove_21 : decode cX10_stepsToNextMove 21 = .ok (.getfield 21, 3) := dgX10_stepsToNextMove_0.2.2.2.2.2.2.2.2.2.2.2.1
theorem dgX10_stepsToNextMove_24 : (decode cX10_stepsToNextMove 24 = .ok (.getfield 82, 3)) ∧ (decode cX10_stepsToNextMove 27 = .ok (.iload 4, 2)) ∧ (decode cX10_stepsToNextMove 29 = .ok (.aaload, 1)) ∧ (decode cX10_stepsToNextMove 30 = .ok (.iload_n 1, 1)) ∧ (decode cX10_stepsToNextMove 31 = .ok (.iload_n 2, 1)) ∧ (decode cX10_stepsToNextMove 32 = .ok (.invokevirtual 86, 3)) ∧ (decode cX10_stepsToNextMove 35 = .ok (.invokestatic 91, 3)) ∧ (decode cX10_stepsToNextMove 38 = .ok (.istore_n 3, 1)) ∧ (decode cX10_stepsToNextMove 39 = .ok (.iinc 4 1, 3)) ∧ (decode cX10_stepsToNextMove 42 = .ok (.goto (-35), 3)) ∧ (decode cX10_stepsToNextMove 45 = .ok (.iload_n 3, 1)) ∧ (decode cX10_stepsToNextMove 46 = .ok (.ireturn, 1)) ∧ True := dkW [(24, .getfield 82, 3), (27, .iload 4, 2), (29, .aaload, 1), (30, .iload_n 1, 1), (31, .iload_n 2, 1), (32, .invokevirtual 86, 3), (35, .invokestatic 91, 3), (38, .istore_n 3, 1), (39, .iinc 4 1, 3), (42, .goto (-35), 3), (45, .iload_n 3, 1), (46, .ireturn, 1)] 24 (by decide +kernel)
theorem dX10_stepsToNextMove_24 : decode cX10_stepsToNextMove 24 = .ok (.getfield 82, 3) := dgX10_stepsToNextMove_24.1
theorem dX10_stepsToNextMove_27 : decode cX10_stepsToNextMove 27 = .ok (.iload 4, 2) := dgX10_stepsToNextMove_24.2.1
theorem dX10_stepsToNextMove_29 : decode cX10_stepsToNextMove 29 = .ok (.aaload, 1) := dgX10_stepsToNextMove_24.2.2.1
theorem dX10_stepsToNextMove_30 : decode cX10_stepsToNextMove 30 = .ok (.iload_n 1, 1) := dgX10_stepsToNextMove_24.2.2.2.1
theorem dX10_stepsToNextMove_31 : decode cX10_stepsToNextMove 31 = .ok (.iload_n 2, 1) := dgX10_stepsToNextMove_24.2.2.2.2.1
theorem dX10_stepsToNextMove_32 : decode cX10_stepsToNextMove 32 = .ok (.invokevirtual 86, 3) := dgX10_stepsToNextMove_24.2.2.2.2.2.1
theorem dX10_stepsToNextMove_35 : decode cX10_stepsToNextMove 35 = .ok (.invokestatic 91, 3) := dgX10_stepsToNextMove_24.2.2.2.2.2.2.1
theorem dX10_stepsToNextMove_38 : decode cX10_stepsToNextMove 38 = .ok (.istore_n 3, 1) := dgX10_stepsToNextMove_24.2.2.2.2.2.2.2.1
theorem dX10_stepsToNextMove_39 : decode cX10_stepsToNextMove 39 = .ok (.iinc 4 1, 3) := dgX10_stepsToNextMove_24.2.2.2.2.2.2.2.2.1
theorem dX10_stepsToNextMove_42 : decode cX10_stepsToNextMove 42 = .ok (.goto (-35), 3) := dgX10_stepsToNextMove_24.2.2.2.2.2.2.2.2.2.1
theorem dX10_stepsToNextMove_45 : decode cX10_stepsToNextMove 45 = .ok (.iload_n 3, 1) := dgX10_stepsToNextMove_24.2.2.2.2.2.2.2.2.2.2.1
theorem dX10_stepsToNextMove_46 : decode cX10_stepsToNextMove 46 = .ok (.ireturn, 1) := dgX10_stepsToNextMove_24.2.2.2.2.2.2.2.2.2.2.2.1
abbrev rmX10_stepsToNextMove : Room := { frames := 2, cells := 0, slots := 0, locals := 47 }
noncomputable def fX10_stepsToNextMove_b7_body (N : Nat)  (g7 : Hs → Int32 → Int32 → Int32 → Int32 → Option (Int32 × Hs)) (t : Nat) (h : Hs) (x1 : Int32) (x2 : Int32) (x3 : Int32) (x4 : Int32) : Option (Int32 × Hs) :=
  (oR 10 0 h (some t)).bind fun o1 =>
  (oI 5 9 h o1).bind fun v2 =>
  if v2 ≤ x4 then (
  some (x3, h))
  else (oR 10 0 h (some t)).bind fun o3 =>
  (oR 5 2 h o3).bind fun o4 =>
  (lQ 25 h o4 x4).bind fun o5 =>
  (rc 4 h o5).bind fun a7 =>
  (fX4_stepsToNextPlace N h a7 x1 x2).bind fun r6 =>
  (some (if r6.1 < x3 then r6.1 else x3 : Int32)).bind fun y8 =>
  (some (x4 + 1)).bind fun y9 =>
  g7 r6.2 x1 x2 y8 y9
noncomputable def fX10_stepsToNextMove_b7 (N : Nat)  (t : Nat) (n : Nat) : Hs → Int32 → Int32 → Int32 → Int32 → Option (Int32 × Hs) := lp (fun _ _ _ _ _ => none) (fun g h x1 x2 x3 x4 => fX10_stepsToNextMove_b7_body N  g t h x1 x2 x3 x4) n
set_option maxHeartbeats 4000000 in
set_option maxRecDepth 20000 in
theorem wX10_stepsToNextMove_b7_body {p : Program} {l : Launch} {e : Env} {s : State} {m : MethodId} {args : Array Value} {below : List Frame} {meth : Method} {c : Code} {G : Gl} {N : Nat} {h : Hs} {r : Int32 × Hs}  {g7 : Hs → Int32 → Int32 → Int32 → Int32 → Option (Int32 × Hs)} {t : Nat} {x1 : Int32} {x2 : Int32} {x3 : Int32} {x4 : Int32} (C : Cx p s m args meth c cX10_stepsToNextMove RX10 5 G) (hret : meth.sig.returnType = (some .int))  (hg7 : ∀ (h : Hs) (x1 : Int32) (x2 : Int32) (x3 : Int32) (x4 : Int32), g7 h x1 x2 x3 x4 = some r → V p l e rmX10_stepsToNextMove s m args below meth c G 5 (MQ below (QcG G (some (.inl r.1)) r.2) args s rmX10_stepsToNextMove.cells rmX10_stepsToNextMove.slots (AG G)) h 0 0 7 [some (.inr (some t)), some (.inl x1), some (.inl x2), some (.inl x3), some (.inl x4)] []) (hf : fX10_stepsToNextMove_b7_body N  g7 t h x1 x2 x3 x4 = some r) : V p l e rmX10_stepsToNextMove s m args below meth c G 5 (MQ below (QcG G (some (.inl r.1)) r.2) args s rmX10_stepsToNextMove.cells rmX10_stepsToNextMove.slots (AG G)) h 0 0 7 [some (.inr (some t)), some (.inl x1), some (.inl x2), some (.inl x3), some (.inl x4)] [] := by
  unfold fX10_stepsToNextMove_b7_body at hf
  refine r_iload C dX10_stepsToNextMove_7 rfl ?_
  refine r_aload_n C dX10_stepsToNextMove_9 rfl ?_
  obtain ⟨o1, eo1, hf⟩ := bS hf
  refine r_getR C dX10_stepsToNextMove_10 fl_X10_21 rfl eo1 ?_
  obtain ⟨v2, ev2, hf⟩ := bS hf
  refine r_getI C dX10_stepsToNextMove_13 fl_X10_79 rfl ev2 ?_
  refine r_icmp_ge (tgt := 45) C dX10_stepsToNextMove_16 (by decide) (fun hc => ?_) (fun hc => ?_)
  · have hf := ifT hf hc
    refine r_iload_n C dX10_stepsToNextMove_45 rfl ?_
    exact r_iretF C dX10_stepsToNextMove_46 hret hf (by decide) (by decide)
  · have hf := ifF hf hc
    refine r_iload_n C dX10_stepsToNextMove_19 rfl ?_
    refine r_aload_n C dX10_stepsToNextMove_20 rfl ?_
    obtain ⟨o3, eo3, hf⟩ := bS hf
    refine r_getR C dX10_stepsToNextMove_21 fl_X10_21 rfl eo3 ?_
    obtain ⟨o4, eo4, hf⟩ := bS hf
    refine r_getR C dX10_stepsToNextMove_24 fl_X10_82 rfl eo4 ?_
    refine r_iload C dX10_stepsToNextMove_27 rfl ?_
    obtain ⟨o5, eo5, hf⟩ := bS hf
    refine r_qald (t := 5) C dX10_stepsToNextMove_29 (by decide) (by decide) rfl eo5 ?_
    refine r_iload_n C dX10_stepsToNextMove_30 rfl ?_
    refine r_iload_n C dX10_stepsToNextMove_31 rfl ?_
    obtain ⟨a7, ea7, hf⟩ := bS hf
    obtain ⟨r6, er6, hf⟩ := bS hf
    refine r_invV1 (As := [.inl x1, .inl x2]) (ci := 4) C dX10_stepsToNextMove_32 mcX4_stepsToNextPlace wd_629 wd_630 wd_631 rfl rfl (by decide) ⟨by decide, by decide⟩ ⟨by decide, by decide⟩ rfl (Nat.le_of_ble_eq_true rfl) ea7 (kX4_stepsToNextPlace l G er6) ?_
    refine r_mmin C dX10_stepsToNextMove_35 ⟨wd_633, wd_634, wd_14, wd_635⟩ (by decide) (Nat.le_of_ble_eq_true rfl) (by decide) (by decide) ?_
    obtain ⟨y8, ey8, hf⟩ := bS hf
    refine r_istore_nE C dX10_stepsToNextMove_38 (by decide) ey8 ?_
    obtain ⟨y9, ey9, hf⟩ := bS hf
    refine r_iincE (v := 1) C dX10_stepsToNextMove_39 rfl (by decide) (by decide) ey9 ?_
    refine r_goto (tgt := 7) C dX10_stepsToNextMove_42 (by decide) ?_
    exact V.sub (hg7 _ _ _ _ _ hf) (LW_s rfl (LW_s rfl (LW_s rfl (LW_s rfl (LW_s rfl (LW_e))))))
theorem wX10_stepsToNextMove_b7 {p : Program} {l : Launch} {e : Env} {s : State} {m : MethodId} {args : Array Value} {below : List Frame} {meth : Method} {c : Code} {G : Gl} {N : Nat} {r : Int32 × Hs}  {t : Nat} (C : Cx p s m args meth c cX10_stepsToNextMove RX10 5 G) (hret : meth.sig.returnType = (some .int))  : ∀ (n : Nat) (h : Hs) (x1 : Int32) (x2 : Int32) (x3 : Int32) (x4 : Int32), fX10_stepsToNextMove_b7 N  t n h x1 x2 x3 x4 = some r → V p l e rmX10_stepsToNextMove s m args below meth c G 5 (MQ below (QcG G (some (.inl r.1)) r.2) args s rmX10_stepsToNextMove.cells rmX10_stepsToNextMove.slots (AG G)) h 0 0 7 [some (.inr (some t)), some (.inl x1), some (.inl x2), some (.inl x3), some (.inl x4)] [] := by
  intro n
  induction n with
  | zero => intro h x1 x2 x3 x4 hf; exact absurd (show (none : Option (Int32 × Hs)) = some r from hf) (fun q => by cases q)
  | succ n ih => intro h x1 x2 x3 x4 hf; exact wX10_stepsToNextMove_b7_body C hret  ih (show fX10_stepsToNextMove_b7_body N  (fX10_stepsToNextMove_b7 N  t n) t h x1 x2 x3 x4 = some r from hf)
noncomputable def fX10_stepsToNextMove (N : Nat) (h : Hs) (t : Nat) (p1 : Int32) (p2 : Int32) : Option (Int32 × Hs) :=
  fX10_stepsToNextMove_b7 N t N h p1 p2 9999 0
set_option maxHeartbeats 4000000 in
set_option maxRecDepth 20000 in
theorem kX10_stepsToNextMove (l : Launch) (G : Gl) {N : Nat} {h : Hs} {t : Nat} {p1 : Int32} {p2 : Int32} {r : Int32 × Hs} (hf : fX10_stepsToNextMove N h t p1 p2 = some r) : CT l G yX10_stepsToNextMove cX10_stepsToNextMove 5 (some .int) rmX10_stepsToNextMove [.inr (some t), .inl p1, .inl p2] h (some (.inl r.1)) r.2 := by
  refine mk_CT (by decide) (Nat.le_of_ble_eq_true rfl) ?_
  intro p e s m args below meth c C hret hin
  unfold fX10_stepsToNextMove at hf
  refine r_sipush (v := 9999) C dX10_stepsToNextMove_0 (by decide) ?_
  refine r_istore_n C dX10_stepsToNextMove_3 (by decide) ?_
  refine r_iconst (v := 0) C dX10_stepsToNextMove_4 (by decide) ?_
  refine r_istore C dX10_stepsToNextMove_5 (by decide) ?_
  exact V.sub (wX10_stepsToNextMove_b7 C hret N _ _ _ _ _ hf) (LW_s rfl (LW_s rfl (LW_s rfl (LW_s rfl (LW_s rfl (LW_e))))))

theorem dgX10_lookAhead_0 : (decode cX10_lookAhead 0 = .ok (.iload_n 1, 1)) ∧ (decode cX10_lookAhead 1 = .ok (.ifCond .ge 7, 3)) ∧ True := dkW [(0, .iload_n 1, 1), (1, .ifCond .ge 7, 3)] 0 (by decide +kernel)
theorem dX10_lookAhead_0 : decode cX10_lookAhead 0 = .ok (.iload_n 1, 1) := dgX10_lookAhead_0.1
theorem dX10_lookAhead_1 : decode cX10_lookAhead 1 = .ok (.ifCond .ge 7, 3) := dgX10_lookAhead_0.2.1
theorem dX10_lookAhead_4 : decode cX10_lookAhead 4 = .ok (.iconst (-1), 1) := by decide +kernel
theorem dgX10_lookAhead_5 : (decode cX10_lookAhead 5 = .ok (.goto 4, 3)) ∧ (decode cX10_lookAhead 8 = .ok (.iconst 1, 1)) ∧ (decode cX10_lookAhead 9 = .ok (.istore_n 2, 1)) ∧ (decode cX10_lookAhead 10 = .ok (.iload_n 1, 1)) ∧ (decode cX10_lookAhead 11 = .ok (.invokestatic 49, 3)) ∧ (decode cX10_lookAhead 14 = .ok (.istore_n 3, 1)) ∧ (decode cX10_lookAhead 15 = .ok (.aload_n 0, 1)) ∧ (decode cX10_lookAhead 16 = .ok (.getfield 18, 3)) ∧ (decode cX10_lookAhead 19 = .ok (.iconst 0, 1)) ∧ True := dkW [(5, .goto 4, 3), (8, .iconst 1, 1), (9, .istore_n 2, 1), (10, .iload_n 1, 1), (11, .invokestatic 49, 3), (14, .istore_n 3, 1), (15, .aload_n 0, 1), (16, .getfield 18, 3), (19, .iconst 0, 1)] 5 (by decide +kernel)
theorem dX10_lookAhead_5 : decode cX10_lookAhead 5 = .ok (.goto 4, 3) := dgX10_lookAhead_5.1
theorem dX10_lookAhead_8 : decode cX10_lookAhead 8 = .ok (.iconst 1, 1) := dgX10_lookAhead_5.2.1
theorem dX10_lookAhead_9 : decode cX10_lookAhead 9 = .ok (.istore_n 2, 1) := dgX10_lookAhead_5.2.2.1
theorem dX10_lookAhead_10 : decode cX10_lookAhead 10 = .ok (.iload_n 1, 1) := dgX10_lookAhead_5.2.2.2.1
theorem dX10_lookAhead_11 : decode cX10_lookAhead 11 = .ok (.invokestatic 49, 3) := dgX10_lookAhead_5.2.2.2.2.1
theorem dX10_lookAhead_14 : decode cX10_lookAhead 14 = .ok (.istore_n 3, 1) := dgX10_lookAhead_5.2.2.2.2.2.1
theorem dX10_lookAhead_15 : decode cX10_lookAhead 15 = .ok (.aload_n 0, 1) := dgX10_lookAhead_5.2.2.2.2.2.2.1
theorem dX10_lookAhead_16 : decode cX10_lookAhead 16 = .ok (.getfield 18, 3) := dgX10_lookAhead_5.2.2.2.2.2.2.2.1
theorem dX10_lookAhead_19 : decode cX10_lookAhead 19 = .ok (.iconst 0, 1) := dgX10_lookAhead_5.2.2.2.2.2.2.2.2.1
theorem dX10_lookAhead_20 : decode cX10_lookAhead 20 = .ok (.iconst (-1), 1) := by decide +kernel
theorem dX10_lookAhead_21 : decode cX10_lookAhead 21 = .ok (.iconst (-1), 1) := by decide +kernel
theorem dgX10_lookAhead_22 : (decode cX10_lookAhead 22 = .ok (.invokevirtual 39, 3)) ∧ (decode cX10_lookAhead 25 = .ok (.iconst 1, 1)) ∧ (decode cX10_lookAhead 26 = .ok (.istore 4, 2)) ∧ (decode cX10_lookAhead 28 = .ok (.iload 4, 2)) ∧ (decode cX10_lookAhead 30 = .ok (.iload_n 3, 1)) ∧ (decode cX10_lookAhead 31 = .ok (.if_icmp .gt 66, 3)) ∧ (decode cX10_lookAhead 34 = .ok (.aload_n 0, 1)) ∧ (decode cX10_lookAhead 35 = .ok (.getfield 21, 3)) ∧ (decode cX10_lookAhead 38 = .ok (.iload_n 2, 1)) ∧ (decode cX10_lookAhead 39 = .ok (.iload 4, 2)) ∧ (decode cX10_lookAhead 41 = .ok (.imul, 1)) ∧ (decode cX10_lookAhead 42 = .ok (.invokevirtual 54, 3)) ∧ True := dkW [(22, .invokevirtual 39, 3), (25, .iconst 1, 1), (26, .istore 4, 2), (28, .iload 4, 2), (30, .iload_n 3, 1), (31, .if_icmp .gt 66, 3), (34, .aload_n 0, 1), (35, .getfield 21, 3), (38, .iload_n 2, 1), (39, .iload 4, 2), (41, .imul, 1), (42, .invokevirtual 54, 3)] 22 (by decide +kernel)
theorem dX10_lookAhead_22 : decode cX10_lookAhead 22 = .ok (.invokevirtual 39, 3) := dgX10_lookAhead_22.1
theorem dX10_lookAhead_25 : decode cX10_lookAhead 25 = .ok (.iconst 1, 1) := dgX10_lookAhead_22.2.1
theorem dX10_lookAhead_26 : decode cX10_lookAhead 26 = .ok (.istore 4, 2) := dgX10_lookAhead_22.2.2.1
theorem dX10_lookAhead_28 : decode cX10_lookAhead 28 = .ok (.iload 4, 2) := dgX10_lookAhead_22.2.2.2.1
theorem dX10_lookAhead_30 : decode cX10_lookAhead 30 = .ok (.iload_n 3, 1) := dgX10_lookAhead_22.2.2.2.2.1
theorem dX10_lookAhead_31 : decode cX10_lookAhead 31 = .ok (.if_icmp .gt 66, 3) := dgX10_lookAhead_22.2.2.2.2.2.1
theorem dX10_lookAhead_34 : decode cX10_lookAhead 34 = .ok (.aload_n 0, 1) := dgX10_lookAhead_22.2.2.2.2.2.2.1
theorem dX10_lookAhead_35 : decode cX10_lookAhead 35 = .ok (.getfield 21, 3) := dgX10_lookAhead_22.2.2.2.2.2.2.2.1
theorem dX10_lookAhead_38 : decode cX10_lookAhead 38 = .ok (.iload_n 2, 1) := dgX10_lookAhead_22.2.2.2.2.2.2.2.2.1
theorem dX10_lookAhead_39 : decode cX10_lookAhead 39 = .ok (.iload 4, 2) := dgX10_lookAhead_22.2.2.2.2.2.2.2.2.2.1
theorem dX10_lookAhead_41 : decode cX10_lookAhead 41 = .ok (.imul, 1) := dgX10_lookAhead_22.2.2.2.2.2.2.2.2.2.2.1
theorem dX10_lookAhead_42 : decode cX10_lookAhead 42 = .ok (.invokevirtual 54, 3) := dgX10_lookAhead_22.2.2.2.2.2.2.2.2.2.2.2.1
theorem dgX10_lookAhead_45 : (decode cX10_lookAhead 45 = .ok (.aload_n 0, 1)) ∧ (decode cX10_lookAhead 46 = .ok (.invokevirtual 57, 3)) ∧ (decode cX10_lookAhead 49 = .ok (.ifCond .ne 24, 3)) ∧ (decode cX10_lookAhead 52 = .ok (.aload_n 0, 1)) ∧ (decode cX10_lookAhead 53 = .ok (.invokevirtual 61, 3)) ∧ (decode cX10_lookAhead 56 = .ok (.ifCond .ne 17, 3)) ∧ (decode cX10_lookAhead 59 = .ok (.aload_n 0, 1)) ∧ (decode cX10_lookAhead 60 = .ok (.aload_n 0, 1)) ∧ (decode cX10_lookAhead 61 = .ok (.getfield 21, 3)) ∧ (decode cX10_lookAhead 64 = .ok (.invokevirtual 64, 3)) ∧ (decode cX10_lookAhead 67 = .ok (.invokevirtual 68, 3)) ∧ (decode cX10_lookAhead 70 = .ok (.ifCond .eq 8, 3)) ∧ True := dkW [(45, .aload_n 0, 1), (46, .invokevirtual 57, 3), (49, .ifCond .ne 24, 3), (52, .aload_n 0, 1), (53, .invokevirtual 61, 3), (56, .ifCond .ne 17, 3), (59, .aload_n 0, 1), (60, .aload_n 0, 1), (61, .getfield 21, 3), (64, .invokevirtual 64, 3), (67, .invokevirtual 68, 3), (70, .ifCond .eq 8, 3)] 45 (by decide +kernel)
theorem dX10_lookAhead_45 : decode cX10_lookAhead 45 = .ok (.aload_n 0, 1) := dgX10_lookAhead_45.1
theorem dX10_lookAhead_46 : decode cX10_lookAhead 46 = .ok (.invokevirtual 57, 3) := dgX10_lookAhead_45.2.1
theorem dX10_lookAhead_49 : decode cX10_lookAhead 49 = .ok (.ifCond .ne 24, 3) := dgX10_lookAhead_45.2.2.1
theorem dX10_lookAhead_52 : decode cX10_lookAhead 52 = .ok (.aload_n 0, 1) := dgX10_lookAhead_45.2.2.2.1
theorem dX10_lookAhead_53 : decode cX10_lookAhead 53 = .ok (.invokevirtual 61, 3) := dgX10_lookAhead_45.2.2.2.2.1
theorem dX10_lookAhead_56 : decode cX10_lookAhead 56 = .ok (.ifCond .ne 17, 3) := dgX10_lookAhead_45.2.2.2.2.2.1
theorem dX10_lookAhead_59 : decode cX10_lookAhead 59 = .ok (.aload_n 0, 1) := dgX10_lookAhead_45.2.2.2.2.2.2.1
theorem dX10_lookAhead_60 : decode cX10_lookAhead 60 = .ok (.aload_n 0, 1) := dgX10_lookAhead_45.2.2.2.2.2.2.2.1
theorem dX10_lookAhead_61 : decode cX10_lookAhead 61 = .ok (.getfield 21, 3) := dgX10_lookAhead_45.2.2.2.2.2.2.2.2.1
theorem dX10_lookAhead_64 : decode cX10_lookAhead 64 = .ok (.invokevirtual 64, 3) := dgX10_lookAhead_45.2.2.2.2.2.2.2.2.2.1
theorem dX10_lookAhead_67 : decode cX10_lookAhead 67 = .ok (.invokevirtual 68, 3) := dgX10_lookAhead_45.2.2.2.2.2.2.2.2.2.2.1
theorem dX10_lookAhead_70 : decode cX10_lookAhead 70 = .ok (.ifCond .eq 8, 3) := dgX10_lookAhead_45.2.2.2.2.2.2.2.2.2.2.2.1
theorem dgX10_lookAhead_73 : (decode cX10_lookAhead 73 = .ok (.iload 4, 2)) ∧ (decode cX10_lookAhead 75 = .ok (.iconst 1, 1)) ∧ (decode cX10_lookAhead 76 = .ok (.isub, 1)) ∧ (decode cX10_lookAhead 77 = .ok (.ireturn, 1)) ∧ (decode cX10_lookAhead 78 = .ok (.iload 4, 2)) ∧ (decode cX10_lookAhead 80 = .ok (.iconst 1, 1)) ∧ (decode cX10_lookAhead 81 = .ok (.aload_n 0, 1)) ∧ (decode cX10_lookAhead 82 = .ok (.iload_n 2, 1)) ∧ (decode cX10_lookAhead 83 = .ok (.iload 4, 2)) ∧ (decode cX10_lookAhead 85 = .ok (.invokevirtual 72, 3)) ∧ (decode cX10_lookAhead 88 = .ok (.invokestatic 76, 3)) ∧ (decode cX10_lookAhead 91 = .ok (.iadd, 1)) ∧ True := dkW [(73, .iload 4, 2), (75, .iconst 1, 1), (76, .isub, 1), (77, .ireturn, 1), (78, .iload 4, 2), (80, .iconst 1, 1), (81, .aload_n 0, 1), (82, .iload_n 2, 1), (83, .iload 4, 2), (85, .invokevirtual 72, 3), (88, .invokestatic 76, 3), (91, .iadd, 1)] 73 (by decide +kernel)
theorem dX10_lookAhead_73 : decode cX10_lookAhead 73 = .ok (.iload 4, 2) := dgX10_lookAhead_73.1
theorem dX10_lookAhead_75 : decode cX10_lookAhead 75 = .ok (.iconst 1, 1) := dgX10_lookAhead_73.2.1
theorem dX10_lookAhead_76 : decode cX10_lookAhead 76 = .ok (.isub, 1) := dgX10_lookAhead_73.2.2.1
theorem dX10_lookAhead_77 : decode cX10_lookAhead 77 = .ok (.ireturn, 1) := dgX10_lookAhead_73.2.2.2.1
theorem dX10_lookAhead_78 : decode cX10_lookAhead 78 = .ok (.iload 4, 2) := dgX10_lookAhead_73.2.2.2.2.1
theorem dX10_lookAhead_80 : decode cX10_lookAhead 80 = .ok (.iconst 1, 1) := dgX10_lookAhead_73.2.2.2.2.2.1
theorem dX10_lookAhead_81 : decode cX10_lookAhead 81 = .ok (.aload_n 0, 1) := dgX10_lookAhead_73.2.2.2.2.2.2.1
theorem dX10_lookAhead_82 : decode cX10_lookAhead 82 = .ok (.iload_n 2, 1) := dgX10_lookAhead_73.2.2.2.2.2.2.2.1
theorem dX10_lookAhead_83 : decode cX10_lookAhead 83 = .ok (.iload 4, 2) := dgX10_lookAhead_73.2.2.2.2.2.2.2.2.1
theorem dX10_lookAhead_85 : decode cX10_lookAhead 85 = .ok (.invokevirtual 72, 3) := dgX10_lookAhead_73.2.2.2.2.2.2.2.2.2.1
theorem dX10_lookAhead_88 : decode cX10_lookAhead 88 = .ok (.invokestatic 76, 3) := dgX10_lookAhead_73.2.2.2.2.2.2.2.2.2.2.1
theorem dX10_lookAhead_91 : decode cX10_lookAhead 91 = .ok (.iadd, 1) := dgX10_lookAhead_73.2.2.2.2.2.2.2.2.2.2.2.1
theorem dgX10_lookAhead_92 : (decode cX10_lookAhead 92 = .ok (.istore 4, 2)) ∧ (decode cX10_lookAhead 94 = .ok (.goto (-66), 3)) ∧ (decode cX10_lookAhead 97 = .ok (.iload_n 3, 1)) ∧ (decode cX10_lookAhead 98 = .ok (.ireturn, 1)) ∧ True := dkW [(92, .istore 4, 2), (94, .goto (-66), 3), (97, .iload_n 3, 1), (98, .ireturn, 1)] 92 (by decide +kernel)
theorem dX10_lookAhead_92 : decode cX10_lookAhead 92 = .ok (.istore 4, 2) := dgX10_lookAhead_92.1
theorem dX10_lookAhead_94 : decode cX10_lookAhead 94 = .ok (.goto (-66), 3) := dgX10_lookAhead_92.2.1
theorem dX10_lookAhead_97 : decode cX10_lookAhead 97 = .ok (.iload_n 3, 1) := dgX10_lookAhead_92.2.2.1
theorem dX10_lookAhead_98 : decode cX10_lookAhead 98 = .ok (.ireturn, 1) := dgX10_lookAhead_92.2.2.2.1
abbrev rmX10_lookAhead : Room := { frames := 3, cells := 0, slots := 0, locals := 71 }
noncomputable def fX10_lookAhead_b73 (N : Nat)  (t : Nat) (h : Hs) (x4 : Int32) : Option (Int32 × Hs) :=
  some (x4 - 1, h)
set_option maxHeartbeats 4000000 in
set_option maxRecDepth 20000 in
theorem wX10_lookAhead_b73 {p : Program} {l : Launch} {e : Env} {s : State} {m : MethodId} {args : Array Value} {below : List Frame} {meth : Method} {c : Code} {G : Gl} {N : Nat} {h : Hs} {r : Int32 × Hs}  {t : Nat} {x4 : Int32} (C : Cx p s m args meth c cX10_lookAhead RX10 5 G) (hret : meth.sig.returnType = (some .int))  (hf : fX10_lookAhead_b73 N  t h x4 = some r) : V p l e rmX10_lookAhead s m args below meth c G 5 (MQ below (QcG G (some (.inl r.1)) r.2) args s rmX10_lookAhead.cells rmX10_lookAhead.slots (AG G)) h 0 0 73 [some (.inr (some t)), none, none, none, some (.inl x4)] [] := by
  unfold fX10_lookAhead_b73 at hf
  refine r_iload C dX10_lookAhead_73 rfl ?_
  refine r_iconst (v := 1) C dX10_lookAhead_75 (by decide) ?_
  refine r_isub C dX10_lookAhead_76 ?_
  exact r_iretF C dX10_lookAhead_77 hret hf (by decide) (by decide)
noncomputable def fX10_lookAhead_b28_body (N : Nat)  (g28 : Hs → Int32 → Int32 → Int32 → Option (Int32 × Hs)) (t : Nat) (h : Hs) (x2 : Int32) (x3 : Int32) (x4 : Int32) : Option (Int32 × Hs) :=
  if x3 < x4 then (
  some (x3, h))
  else (oR 10 0 h (some t)).bind fun o1 =>
  (rc 5 h o1).bind fun a3 =>
  (fX5_place N h a3 (x2 * x4)).bind fun r2 =>
  (rc 10 r2 (some t)).bind fun a5 =>
  (fX10_isBeyond N r2 a5 ).bind fun r4 =>
  if r4.1 = 0 then (
  (rc 10 r4.2 (some t)).bind fun a7 =>
  (fX10_isMeeting N r4.2 a7 ).bind fun r6 =>
  if r6.1 = 0 then (
  (oR 10 0 r6.2 (some t)).bind fun o8 =>
  (rc 5 r6.2 o8).bind fun a10 =>
  (fX5_trialPull N r6.2 a10 ).bind fun r9 =>
  (rc 10 r9.2 (some t)).bind fun a12 =>
  (fX10_isUneven N r9.2 a12 r9.1).bind fun r11 =>
  if r11.1 = 0 then (
  (rc 10 r11.2 (some t)).bind fun a14 =>
  (fX10_stepsToNextMove N r11.2 a14 x2 x4).bind fun r13 =>
  (some (x4 + (if 1 < r13.1 then r13.1 else 1 : Int32))).bind fun y15 =>
  g28 r13.2 x2 x3 y15)
  else fX10_lookAhead_b73 N t r11.2 x4)
  else fX10_lookAhead_b73 N t r6.2 x4)
  else fX10_lookAhead_b73 N t r4.2 x4
noncomputable def fX10_lookAhead_b28 (N : Nat)  (t : Nat) (n : Nat) : Hs → Int32 → Int32 → Int32 → Option (Int32 × Hs) := lp (fun _ _ _ _ => none) (fun g h x2 x3 x4 => fX10_lookAhead_b28_body N  g t h x2 x3 x4) n
set_option maxHeartbeats 4000000 in
set_option maxRecDepth 20000 in
theorem wX10_lookAhead_b28_body {p : Program} {l : Launch} {e : Env} {s : State} {m : MethodId} {args : Array Value} {below : List Frame} {meth : Method} {c : Code} {G : Gl} {N : Nat} {h : Hs} {r : Int32 × Hs}  {g28 : Hs → Int32 → Int32 → Int32 → Option (Int32 × Hs)} {t : Nat} {x2 : Int32} {x3 : Int32} {x4 : Int32} (C : Cx p s m args meth c cX10_lookAhead RX10 5 G) (hret : meth.sig.returnType = (some .int))  (hg28 : ∀ (h : Hs) (x2 : Int32) (x3 : Int32) (x4 : Int32), g28 h x2 x3 x4 = some r → V p l e rmX10_lookAhead s m args below meth c G 5 (MQ below (QcG G (some (.inl r.1)) r.2) args s rmX10_lookAhead.cells rmX10_lookAhead.slots (AG G)) h 0 0 28 [some (.inr (some t)), none, some (.inl x2), some (.inl x3), some (.inl x4)] []) (hf : fX10_lookAhead_b28_body N  g28 t h x2 x3 x4 = some r) : V p l e rmX10_lookAhead s m args below meth c G 5 (MQ below (QcG G (some (.inl r.1)) r.2) args s rmX10_lookAhead.cells rmX10_lookAhead.slots (AG G)) h 0 0 28 [some (.inr (some t)), none, some (.inl x2), some (.inl x3), some (.inl x4)] [] := by
  unfold fX10_lookAhead_b28_body at hf
  refine r_iload C dX10_lookAhead_28 rfl ?_
  refine r_iload_n C dX10_lookAhead_30 rfl ?_
  refine r_icmp_gt (tgt := 97) C dX10_lookAhead_31 (by decide) (fun hc => ?_) (fun hc => ?_)
  · have hf := ifT hf hc
    refine r_iload_n C dX10_lookAhead_97 rfl ?_
    exact r_iretF C dX10_lookAhead_98 hret hf (by decide) (by decide)
  · have hf := ifF hf hc
    refine r_aload_n C dX10_lookAhead_34 rfl ?_
    obtain ⟨o1, eo1, hf⟩ := bS hf
    refine r_getR C dX10_lookAhead_35 fl_X10_21 rfl eo1 ?_
    refine r_iload_n C dX10_lookAhead_38 rfl ?_
    refine r_iload C dX10_lookAhead_39 rfl ?_
    refine r_imul C dX10_lookAhead_41 ?_
    obtain ⟨a3, ea3, hf⟩ := bS hf
    obtain ⟨r2, er2, hf⟩ := bS hf
    refine r_invV0 (As := [.inl (x2 * x4)]) (ci := 5) C dX10_lookAhead_42 mcX5_place wd_605 wd_560 wd_561 rfl rfl (by decide) ⟨by decide, by decide⟩ ⟨by decide, by decide⟩ rfl (Nat.le_of_ble_eq_true rfl) ea3 (kX5_place l G er2) ?_
    refine r_aload_n C dX10_lookAhead_45 rfl ?_
    obtain ⟨a5, ea5, hf⟩ := bS hf
    obtain ⟨r4, er4, hf⟩ := bS hf
    refine r_invV1 (As := []) (ci := 10) C dX10_lookAhead_46 mcX10_isBeyond wd_606 wd_608 wp_1 rfl rfl (by decide) ⟨by decide, by decide⟩ ⟨by decide, by decide⟩ rfl (Nat.le_of_ble_eq_true rfl) ea5 (kX10_isBeyond l G er4) ?_
    refine r_if_ne (tgt := 73) C dX10_lookAhead_49 (by decide) (fun hc => ?_) (fun hc => ?_)
    · have hf := ifF hf hc
      exact V.sub (wX10_lookAhead_b73 C hret hf) (LW_s rfl (LW_n (LW_n (LW_n (LW_s rfl (LW_e))))))
    · have hf := ifT hf hc
      refine r_aload_n C dX10_lookAhead_52 rfl ?_
      obtain ⟨a7, ea7, hf⟩ := bS hf
      obtain ⟨r6, er6, hf⟩ := bS hf
      refine r_invV1 (As := []) (ci := 10) C dX10_lookAhead_53 mcX10_isMeeting wd_611 wd_613 wp_2 rfl rfl (by decide) ⟨by decide, by decide⟩ ⟨by decide, by decide⟩ rfl (Nat.le_of_ble_eq_true rfl) ea7 (kX10_isMeeting l G er6) ?_
      refine r_if_ne (tgt := 73) C dX10_lookAhead_56 (by decide) (fun hc => ?_) (fun hc => ?_)
      · have hf := ifF hf hc
        exact V.sub (wX10_lookAhead_b73 C hret hf) (LW_s rfl (LW_n (LW_n (LW_n (LW_s rfl (LW_e))))))
      · have hf := ifT hf hc
        refine r_aload_n C dX10_lookAhead_59 rfl ?_
        refine r_aload_n C dX10_lookAhead_60 rfl ?_
        obtain ⟨o8, eo8, hf⟩ := bS hf
        refine r_getR C dX10_lookAhead_61 fl_X10_21 rfl eo8 ?_
        obtain ⟨a10, ea10, hf⟩ := bS hf
        obtain ⟨r9, er9, hf⟩ := bS hf
        refine r_invV1 (As := []) (ci := 5) C dX10_lookAhead_64 mcX5_trialPull wd_620 wd_575 wd_576 rfl rfl (by decide) ⟨by decide, by decide⟩ ⟨by decide, by decide⟩ rfl (Nat.le_of_ble_eq_true rfl) ea10 (kX5_trialPull l G er9) ?_
        obtain ⟨a12, ea12, hf⟩ := bS hf
        obtain ⟨r11, er11, hf⟩ := bS hf
        refine r_invV1 (As := [.inl r9.1]) (ci := 10) C dX10_lookAhead_67 mcX10_isUneven wd_621 wd_623 wp_3 rfl rfl (by decide) ⟨by decide, by decide⟩ ⟨by decide, by decide⟩ rfl (Nat.le_of_ble_eq_true rfl) ea12 (kX10_isUneven l G er11) ?_
        refine r_if_eq (tgt := 78) C dX10_lookAhead_70 (by decide) (fun hc => ?_) (fun hc => ?_)
        · have hf := ifT hf hc
          refine r_iload C dX10_lookAhead_78 rfl ?_
          refine r_iconst (v := 1) C dX10_lookAhead_80 (by decide) ?_
          refine r_aload_n C dX10_lookAhead_81 rfl ?_
          refine r_iload_n C dX10_lookAhead_82 rfl ?_
          refine r_iload C dX10_lookAhead_83 rfl ?_
          obtain ⟨a14, ea14, hf⟩ := bS hf
          obtain ⟨r13, er13, hf⟩ := bS hf
          refine r_invV1 (As := [.inl x2, .inl x4]) (ci := 10) C dX10_lookAhead_85 mcX10_stepsToNextMove wd_625 wd_627 wp_4 rfl rfl (by decide) ⟨by decide, by decide⟩ ⟨by decide, by decide⟩ rfl (Nat.le_of_ble_eq_true rfl) ea14 (kX10_stepsToNextMove l G er13) ?_
          refine r_mmax C dX10_lookAhead_88 ⟨wd_636, wd_637, wd_14, wd_638⟩ (by decide) (Nat.le_of_ble_eq_true rfl) (by decide) (by decide) ?_
          refine r_iadd C dX10_lookAhead_91 ?_
          obtain ⟨y15, ey15, hf⟩ := bS hf
          refine r_istoreE C dX10_lookAhead_92 (by decide) ey15 ?_
          refine r_goto (tgt := 28) C dX10_lookAhead_94 (by decide) ?_
          exact V.sub (hg28 _ _ _ _ hf) (LW_s rfl (LW_n (LW_s rfl (LW_s rfl (LW_s rfl (LW_e))))))
        · have hf := ifF hf hc
          exact V.sub (wX10_lookAhead_b73 C hret hf) (LW_s rfl (LW_n (LW_n (LW_n (LW_s rfl (LW_e))))))
theorem wX10_lookAhead_b28 {p : Program} {l : Launch} {e : Env} {s : State} {m : MethodId} {args : Array Value} {below : List Frame} {meth : Method} {c : Code} {G : Gl} {N : Nat} {r : Int32 × Hs}  {t : Nat} (C : Cx p s m args meth c cX10_lookAhead RX10 5 G) (hret : meth.sig.returnType = (some .int))  : ∀ (n : Nat) (h : Hs) (x2 : Int32) (x3 : Int32) (x4 : Int32), fX10_lookAhead_b28 N  t n h x2 x3 x4 = some r → V p l e rmX10_lookAhead s m args below meth c G 5 (MQ below (QcG G (some (.inl r.1)) r.2) args s rmX10_lookAhead.cells rmX10_lookAhead.slots (AG G)) h 0 0 28 [some (.inr (some t)), none, some (.inl x2), some (.inl x3), some (.inl x4)] [] := by
  intro n
  induction n with
  | zero => intro h x2 x3 x4 hf; exact absurd (show (none : Option (Int32 × Hs)) = some r from hf) (fun q => by cases q)
  | succ n ih => intro h x2 x3 x4 hf; exact wX10_lookAhead_b28_body C hret  ih (show fX10_lookAhead_b28_body N  (fX10_lookAhead_b28 N  t n) t h x2 x3 x4 = some r from hf)
noncomputable def fX10_lookAhead_b9 (N : Nat)  (t : Nat) (h : Hs) (x1 : Int32) (u0 : Int32) : Option (Int32 × Hs) :=
  (some (if 0 ≤ x1 then x1 else 0 - x1 : Int32)).bind fun y1 =>
  (oR 10 2 h (some t)).bind fun o2 =>
  (rc 7 h o2).bind fun a4 =>
  (fX7_put N h a4 0 (-1) (-1)).bind fun r3 =>
  fX10_lookAhead_b28 N t N r3 u0 y1 1
set_option maxHeartbeats 4000000 in
set_option maxRecDepth 20000 in
theorem wX10_lookAhead_b9 {p : Program} {l : Launch} {e : Env} {s : State} {m : MethodId} {args : Array Value} {below : List Frame} {meth : Method} {c : Code} {G : Gl} {N : Nat} {h : Hs} {r : Int32 × Hs}  {t : Nat} {x1 : Int32} {u0 : Int32} (C : Cx p s m args meth c cX10_lookAhead RX10 5 G) (hret : meth.sig.returnType = (some .int))  (hf : fX10_lookAhead_b9 N  t h x1 u0 = some r) : V p l e rmX10_lookAhead s m args below meth c G 5 (MQ below (QcG G (some (.inl r.1)) r.2) args s rmX10_lookAhead.cells rmX10_lookAhead.slots (AG G)) h 0 0 9 [some (.inr (some t)), some (.inl x1), none, none, none] [.inl u0] := by
  unfold fX10_lookAhead_b9 at hf
  refine r_istore_n C dX10_lookAhead_9 (by decide) ?_
  refine r_iload_n C dX10_lookAhead_10 rfl ?_
  refine r_mabs C dX10_lookAhead_11 ⟨wd_598, wd_599, wd_14, wd_600⟩ (by decide) (Nat.le_of_ble_eq_true rfl) (by decide) (by decide) ?_
  obtain ⟨y1, ey1, hf⟩ := bS hf
  refine r_istore_nE C dX10_lookAhead_14 (by decide) ey1 ?_
  refine r_aload_n C dX10_lookAhead_15 rfl ?_
  obtain ⟨o2, eo2, hf⟩ := bS hf
  refine r_getR C dX10_lookAhead_16 fl_X10_18 rfl eo2 ?_
  refine r_iconst (v := 0) C dX10_lookAhead_19 (by decide) ?_
  refine r_iconst (v := -1) C dX10_lookAhead_20 (by decide) ?_
  refine r_iconst (v := -1) C dX10_lookAhead_21 (by decide) ?_
  obtain ⟨a4, ea4, hf⟩ := bS hf
  obtain ⟨r3, er3, hf⟩ := bS hf
  refine r_invV0 (As := [.inl 0, .inl (-1), .inl (-1)]) (ci := 7) C dX10_lookAhead_22 mcX7_put wd_601 wd_602 wd_603 rfl rfl (by decide) ⟨by decide, by decide⟩ ⟨by decide, by decide⟩ rfl (Nat.le_of_ble_eq_true rfl) ea4 (kX7_put l G er3) ?_
  refine r_iconst (v := 1) C dX10_lookAhead_25 (by decide) ?_
  refine r_istore C dX10_lookAhead_26 (by decide) ?_
  exact V.sub (wX10_lookAhead_b28 C hret N _ _ _ _ hf) (LW_s rfl (LW_n (LW_s rfl (LW_s rfl (LW_s rfl (LW_e))))))
noncomputable def fX10_lookAhead (N : Nat) (h : Hs) (t : Nat) (p1 : Int32) : Option (Int32 × Hs) :=
  if 0 ≤ p1 then (
  fX10_lookAhead_b9 N t h p1 1)
  else fX10_lookAhead_b9 N t h p1 (-1)
set_option maxHeartbeats 4000000 in
set_option maxRecDepth 20000 in
theorem kX10_lookAhead (l : Launch) (G : Gl) {N : Nat} {h : Hs} {t : Nat} {p1 : Int32} {r : Int32 × Hs} (hf : fX10_lookAhead N h t p1 = some r) : CT l G yX10_lookAhead cX10_lookAhead 5 (some .int) rmX10_lookAhead [.inr (some t), .inl p1] h (some (.inl r.1)) r.2 := by
  refine mk_CT (by decide) (Nat.le_of_ble_eq_true rfl) ?_
  intro p e s m args below meth c C hret hin
  unfold fX10_lookAhead at hf
  refine r_iload_n C dX10_lookAhead_0 rfl ?_
  refine r_if_ge (tgt := 8) C dX10_lookAhead_1 (by decide) (fun hc => ?_) (fun hc => ?_)
  · have hf := ifT hf hc
    refine r_iconst (v := 1) C dX10_lookAhead_8 (by decide) ?_
    exact V.sub (wX10_lookAhead_b9 C hret hf) (LW_s rfl (LW_s rfl (LW_n (LW_n (LW_n (LW_e))))))
  · have hf := ifF hf hc
    refine r_iconst (v := -1) C dX10_lookAhead_4 (by decide) ?_
    refine r_goto (tgt := 9) C dX10_lookAhead_5 (by decide) ?_
    exact V.sub (wX10_lookAhead_b9 C hret hf) (LW_s rfl (LW_s rfl (LW_n (LW_n (LW_n (LW_e))))))

theorem dgX10_turnBy_0 : (decode cX10_turnBy 0 = .ok (.aload_n 0, 1)) ∧ (decode cX10_turnBy 1 = .ok (.iload_n 1, 1)) ∧ (decode cX10_turnBy 2 = .ok (.invokevirtual 25, 3)) ∧ (decode cX10_turnBy 5 = .ok (.istore_n 2, 1)) ∧ (decode cX10_turnBy 6 = .ok (.aload_n 0, 1)) ∧ (decode cX10_turnBy 7 = .ok (.getfield 12, 3)) ∧ (decode cX10_turnBy 10 = .ok (.aload_n 0, 1)) ∧ (decode cX10_turnBy 11 = .ok (.getfield 18, 3)) ∧ (decode cX10_turnBy 14 = .ok (.getfield 29, 3)) ∧ (decode cX10_turnBy 17 = .ok (.aload_n 0, 1)) ∧ (decode cX10_turnBy 18 = .ok (.getfield 18, 3)) ∧ (decode cX10_turnBy 21 = .ok (.getfield 33, 3)) ∧ True := dkW [(0, .aload_n 0, 1), (1, .iload_n 1, 1), (2, .invokevirtual 25, 3), (5, .istore_n 2, 1), (6, .aload_n 0, 1), (7, .getfield 12, 3), (10, .aload_n 0, 1), (11, .getfield 18, 3), (14, .getfield 29, 3), (17, .aload_n 0, 1), (18, .getfield 18, 3), (21, .getfield 33, 3)] 0 (by decide +kernel)
theorem dX10_turnBy_0 : decode cX10_turnBy 0 = .ok (.aload_n 0, 1) := dgX10_turnBy_0.1
theorem dX10_turnBy_1 : decode cX10_turnBy 1 = .ok (.iload_n 1, 1) := dgX10_turnBy_0.2.1
theorem dX10_turnBy_2 : decode cX10_turnBy 2 = .ok (.invokevirtual 25, 3) := dgX10_turnBy_0.2.2.1
theorem dX10_turnBy_5 : decode cX10_turnBy 5 = .ok (.istore_n 2, 1) := dgX10_turnBy_0.2.2.2.1
theorem dX10_turnBy_6 : decode cX10_turnBy 6 = .ok (.aload_n 0, 1) := dgX10_turnBy_0.2.2.2.2.1
theorem dX10_turnBy_7 : decode cX10_turnBy 7 = .ok (.getfield 12, 3) := dgX10_turnBy_0.2.2.2.2.2.1
theorem dX10_turnBy_10 : decode cX10_turnBy 10 = .ok (.aload_n 0, 1) := dgX10_turnBy_0.2.2.2.2.2.2.1
theorem dX10_turnBy_11 : decode cX10_turnBy 11 = .ok (.getfield 18, 3) := dgX10_turnBy_0.2.2.2.2.2.2.2.1
theorem dX10_turnBy_14 : decode cX10_turnBy 14 = .ok (.getfield 29, 3) := dgX10_turnBy_0.2.2.2.2.2.2.2.2.1
theorem dX10_turnBy_17 : decode cX10_turnBy 17 = .ok (.aload_n 0, 1) := dgX10_turnBy_0.2.2.2.2.2.2.2.2.2.1
theorem dX10_turnBy_18 : decode cX10_turnBy 18 = .ok (.getfield 18, 3) := dgX10_turnBy_0.2.2.2.2.2.2.2.2.2.2.1
theorem dX10_turnBy_21 : decode cX10_turnBy 21 = .ok (.getfield 33, 3) := dgX10_turnBy_0.2.2.2.2.2.2.2.2.2.2.2.1
theorem dgX10_turnBy_24 : (decode cX10_turnBy 24 = .ok (.aload_n 0, 1)) ∧ (decode cX10_turnBy 25 = .ok (.getfield 18, 3)) ∧ (decode cX10_turnBy 28 = .ok (.getfield 36, 3)) ∧ (decode cX10_turnBy 31 = .ok (.invokevirtual 39, 3)) ∧ (decode cX10_turnBy 34 = .ok (.aload_n 0, 1)) ∧ (decode cX10_turnBy 35 = .ok (.getfield 21, 3)) ∧ (decode cX10_turnBy 38 = .ok (.iload_n 1, 1)) ∧ (decode cX10_turnBy 39 = .ok (.ifCond .ge 8, 3)) ∧ (decode cX10_turnBy 42 = .ok (.iload_n 2, 1)) ∧ (decode cX10_turnBy 43 = .ok (.ineg, 1)) ∧ (decode cX10_turnBy 44 = .ok (.goto 4, 3)) ∧ (decode cX10_turnBy 47 = .ok (.iload_n 2, 1)) ∧ True := dkW [(24, .aload_n 0, 1), (25, .getfield 18, 3), (28, .getfield 36, 3), (31, .invokevirtual 39, 3), (34, .aload_n 0, 1), (35, .getfield 21, 3), (38, .iload_n 1, 1), (39, .ifCond .ge 8, 3), (42, .iload_n 2, 1), (43, .ineg, 1), (44, .goto 4, 3), (47, .iload_n 2, 1)] 24 (by decide +kernel)
theorem dX10_turnBy_24 : decode cX10_turnBy 24 = .ok (.aload_n 0, 1) := dgX10_turnBy_24.1
theorem dX10_turnBy_25 : decode cX10_turnBy 25 = .ok (.getfield 18, 3) := dgX10_turnBy_24.2.1
theorem dX10_turnBy_28 : decode cX10_turnBy 28 = .ok (.getfield 36, 3) := dgX10_turnBy_24.2.2.1
theorem dX10_turnBy_31 : decode cX10_turnBy 31 = .ok (.invokevirtual 39, 3) := dgX10_turnBy_24.2.2.2.1
theorem dX10_turnBy_34 : decode cX10_turnBy 34 = .ok (.aload_n 0, 1) := dgX10_turnBy_24.2.2.2.2.1
theorem dX10_turnBy_35 : decode cX10_turnBy 35 = .ok (.getfield 21, 3) := dgX10_turnBy_24.2.2.2.2.2.1
theorem dX10_turnBy_38 : decode cX10_turnBy 38 = .ok (.iload_n 1, 1) := dgX10_turnBy_24.2.2.2.2.2.2.1
theorem dX10_turnBy_39 : decode cX10_turnBy 39 = .ok (.ifCond .ge 8, 3) := dgX10_turnBy_24.2.2.2.2.2.2.2.1
theorem dX10_turnBy_42 : decode cX10_turnBy 42 = .ok (.iload_n 2, 1) := dgX10_turnBy_24.2.2.2.2.2.2.2.2.1
theorem dX10_turnBy_43 : decode cX10_turnBy 43 = .ok (.ineg, 1) := dgX10_turnBy_24.2.2.2.2.2.2.2.2.2.1
theorem dX10_turnBy_44 : decode cX10_turnBy 44 = .ok (.goto 4, 3) := dgX10_turnBy_24.2.2.2.2.2.2.2.2.2.2.1
theorem dX10_turnBy_47 : decode cX10_turnBy 47 = .ok (.iload_n 2, 1) := dgX10_turnBy_24.2.2.2.2.2.2.2.2.2.2.2.1
theorem dgX10_turnBy_48 : (decode cX10_turnBy 48 = .ok (.invokevirtual 43, 3)) ∧ (decode cX10_turnBy 51 = .ok (.iload_n 2, 1)) ∧ (decode cX10_turnBy 52 = .ok (.ireturn, 1)) ∧ True := dkW [(48, .invokevirtual 43, 3), (51, .iload_n 2, 1), (52, .ireturn, 1)] 48 (by decide +kernel)
theorem dX10_turnBy_48 : decode cX10_turnBy 48 = .ok (.invokevirtual 43, 3) := dgX10_turnBy_48.1
theorem dX10_turnBy_51 : decode cX10_turnBy 51 = .ok (.iload_n 2, 1) := dgX10_turnBy_48.2.1
theorem dX10_turnBy_52 : decode cX10_turnBy 52 = .ok (.ireturn, 1) := dgX10_turnBy_48.2.2.1
abbrev rmX10_turnBy : Room := { frames := 4, cells := 0, slots := 0, locals := 95 }
noncomputable def fX10_turnBy_b48 (N : Nat)  (t : Nat) (h : Hs) (x2 : Int32) (q0 : Option Nat) (u1 : Int32) : Option (Int32 × Hs) :=
  (rc 5 h q0).bind fun a2 =>
  (fX5_advance N h a2 u1).bind fun r1 =>
  some (x2, r1)
set_option maxHeartbeats 4000000 in
set_option maxRecDepth 20000 in
theorem wX10_turnBy_b48 {p : Program} {l : Launch} {e : Env} {s : State} {m : MethodId} {args : Array Value} {below : List Frame} {meth : Method} {c : Code} {G : Gl} {N : Nat} {h : Hs} {r : Int32 × Hs}  {t : Nat} {x2 : Int32} {q0 : Option Nat} {u1 : Int32} (C : Cx p s m args meth c cX10_turnBy RX10 3 G) (hret : meth.sig.returnType = (some .int))  (hf : fX10_turnBy_b48 N  t h x2 q0 u1 = some r) : V p l e rmX10_turnBy s m args below meth c G 3 (MQ below (QcG G (some (.inl r.1)) r.2) args s rmX10_turnBy.cells rmX10_turnBy.slots (AG G)) h 0 0 48 [some (.inr (some t)), none, some (.inl x2)] [.inl u1, .inr q0] := by
  unfold fX10_turnBy_b48 at hf
  obtain ⟨a2, ea2, hf⟩ := bS hf
  obtain ⟨r1, er1, hf⟩ := bS hf
  refine r_invV0 (As := [.inl u1]) (ci := 5) C dX10_turnBy_48 mcX5_advance wd_639 wd_640 wd_641 rfl rfl (by decide) ⟨by decide, by decide⟩ ⟨by decide, by decide⟩ rfl (Nat.le_of_ble_eq_true rfl) ea2 (kX5_advance l G er1) ?_
  refine r_iload_n C dX10_turnBy_51 rfl ?_
  exact r_iretF C dX10_turnBy_52 hret hf (by decide) (by decide)
noncomputable def fX10_turnBy (N : Nat) (h : Hs) (t : Nat) (p1 : Int32) : Option (Int32 × Hs) :=
  (rc 10 h (some t)).bind fun a2 =>
  (fX10_lookAhead N h a2 p1).bind fun r1 =>
  (oR 10 1 r1.2 (some t)).bind fun o3 =>
  (oR 10 2 r1.2 (some t)).bind fun o4 =>
  (oI 7 0 r1.2 o4).bind fun v5 =>
  (oR 10 2 r1.2 (some t)).bind fun o6 =>
  (oI 7 1 r1.2 o6).bind fun v7 =>
  (oR 10 2 r1.2 (some t)).bind fun o8 =>
  (oI 7 2 r1.2 o8).bind fun v9 =>
  (rc 7 r1.2 o3).bind fun a11 =>
  (fX7_put N r1.2 a11 v5 v7 v9).bind fun r10 =>
  (oR 10 0 r10 (some t)).bind fun o12 =>
  if 0 ≤ p1 then (
  fX10_turnBy_b48 N t r10 r1.1 o12 r1.1)
  else fX10_turnBy_b48 N t r10 r1.1 o12 (-r1.1)
set_option maxHeartbeats 4000000 in
set_option maxRecDepth 20000 in
theorem kX10_turnBy (l : Launch) (G : Gl) {N : Nat} {h : Hs} {t : Nat} {p1 : Int32} {r : Int32 × Hs} (hf : fX10_turnBy N h t p1 = some r) : CT l G yX10_turnBy cX10_turnBy 3 (some .int) rmX10_turnBy [.inr (some t), .inl p1] h (some (.inl r.1)) r.2 := by
  refine mk_CT (by decide) (Nat.le_of_ble_eq_true rfl) ?_
  intro p e s m args below meth c C hret hin
  unfold fX10_turnBy at hf
  refine r_aload_n C dX10_turnBy_0 rfl ?_
  refine r_iload_n C dX10_turnBy_1 rfl ?_
  obtain ⟨a2, ea2, hf⟩ := bS hf
  obtain ⟨r1, er1, hf⟩ := bS hf
  refine r_invV1 (As := [.inl p1]) (ci := 10) C dX10_turnBy_2 mcX10_lookAhead wd_594 wd_595 wd_596 rfl rfl (by decide) ⟨by decide, by decide⟩ ⟨by decide, by decide⟩ rfl (Nat.le_of_ble_eq_true rfl) ea2 (kX10_lookAhead l G er1) ?_
  refine r_istore_n C dX10_turnBy_5 (by decide) ?_
  refine r_aload_n C dX10_turnBy_6 rfl ?_
  obtain ⟨o3, eo3, hf⟩ := bS hf
  refine r_getR C dX10_turnBy_7 fl_X10_12 rfl eo3 ?_
  refine r_aload_n C dX10_turnBy_10 rfl ?_
  obtain ⟨o4, eo4, hf⟩ := bS hf
  refine r_getR C dX10_turnBy_11 fl_X10_18 rfl eo4 ?_
  obtain ⟨v5, ev5, hf⟩ := bS hf
  refine r_getI C dX10_turnBy_14 fl_X10_29 rfl ev5 ?_
  refine r_aload_n C dX10_turnBy_17 rfl ?_
  obtain ⟨o6, eo6, hf⟩ := bS hf
  refine r_getR C dX10_turnBy_18 fl_X10_18 rfl eo6 ?_
  obtain ⟨v7, ev7, hf⟩ := bS hf
  refine r_getI C dX10_turnBy_21 fl_X10_33 rfl ev7 ?_
  refine r_aload_n C dX10_turnBy_24 rfl ?_
  obtain ⟨o8, eo8, hf⟩ := bS hf
  refine r_getR C dX10_turnBy_25 fl_X10_18 rfl eo8 ?_
  obtain ⟨v9, ev9, hf⟩ := bS hf
  refine r_getI C dX10_turnBy_28 fl_X10_36 rfl ev9 ?_
  obtain ⟨a11, ea11, hf⟩ := bS hf
  obtain ⟨r10, er10, hf⟩ := bS hf
  refine r_invV0 (As := [.inl v5, .inl v7, .inl v9]) (ci := 7) C dX10_turnBy_31 mcX7_put wd_601 wd_602 wd_603 rfl rfl (by decide) ⟨by decide, by decide⟩ ⟨by decide, by decide⟩ rfl (Nat.le_of_ble_eq_true rfl) ea11 (kX7_put l G er10) ?_
  refine r_aload_n C dX10_turnBy_34 rfl ?_
  obtain ⟨o12, eo12, hf⟩ := bS hf
  refine r_getR C dX10_turnBy_35 fl_X10_21 rfl eo12 ?_
  refine r_iload_n C dX10_turnBy_38 rfl ?_
  refine r_if_ge (tgt := 47) C dX10_turnBy_39 (by decide) (fun hc => ?_) (fun hc => ?_)
  · have hf := ifT hf hc
    refine r_iload_n C dX10_turnBy_47 rfl ?_
    exact V.sub (wX10_turnBy_b48 C hret hf) (LW_s rfl (LW_n (LW_s rfl (LW_e))))
  · have hf := ifF hf hc
    refine r_iload_n C dX10_turnBy_42 rfl ?_
    refine r_ineg C dX10_turnBy_43 ?_
    refine r_goto (tgt := 48) C dX10_turnBy_44 (by decide) ?_
    exact V.sub (wX10_turnBy_b48 C hret hf) (LW_s rfl (LW_n (LW_s rfl (LW_e))))

theorem dgX11_init_0 : (decode cX11_init 0 = .ok (.aload_n 0, 1)) ∧ (decode cX11_init 1 = .ok (.invokespecial 1, 3)) ∧ (decode cX11_init 4 = .ok (.aload_n 0, 1)) ∧ (decode cX11_init 5 = .ok (.new 7, 3)) ∧ (decode cX11_init 8 = .ok (.dup, 1)) ∧ (decode cX11_init 9 = .ok (.invokespecial 9, 3)) ∧ (decode cX11_init 12 = .ok (.putfield 10, 3)) ∧ (decode cX11_init 15 = .ok (.aload_n 0, 1)) ∧ (decode cX11_init 16 = .ok (.new 16, 3)) ∧ (decode cX11_init 19 = .ok (.dup, 1)) ∧ (decode cX11_init 20 = .ok (.invokespecial 18, 3)) ∧ (decode cX11_init 23 = .ok (.putfield 19, 3)) ∧ True := dkW [(0, .aload_n 0, 1), (1, .invokespecial 1, 3), (4, .aload_n 0, 1), (5, .new 7, 3), (8, .dup, 1), (9, .invokespecial 9, 3), (12, .putfield 10, 3), (15, .aload_n 0, 1), (16, .new 16, 3), (19, .dup, 1), (20, .invokespecial 18, 3), (23, .putfield 19, 3)] 0 (by decide +kernel)
theorem dX11_init_0 : decode cX11_init 0 = .ok (.aload_n 0, 1) := dgX11_init_0.1
theorem dX11_init_1 : decode cX11_init 1 = .ok (.invokespecial 1, 3) := dgX11_init_0.2.1
theorem dX11_init_4 : decode cX11_init 4 = .ok (.aload_n 0, 1) := dgX11_init_0.2.2.1
theorem dX11_init_5 : decode cX11_init 5 = .ok (.new 7, 3) := dgX11_init_0.2.2.2.1
theorem dX11_init_8 : decode cX11_init 8 = .ok (.dup, 1) := dgX11_init_0.2.2.2.2.1
theorem dX11_init_9 : decode cX11_init 9 = .ok (.invokespecial 9, 3) := dgX11_init_0.2.2.2.2.2.1
theorem dX11_init_12 : decode cX11_init 12 = .ok (.putfield 10, 3) := dgX11_init_0.2.2.2.2.2.2.1
theorem dX11_init_15 : decode cX11_init 15 = .ok (.aload_n 0, 1) := dgX11_init_0.2.2.2.2.2.2.2.1
theorem dX11_init_16 : decode cX11_init 16 = .ok (.new 16, 3) := dgX11_init_0.2.2.2.2.2.2.2.2.1
theorem dX11_init_19 : decode cX11_init 19 = .ok (.dup, 1) := dgX11_init_0.2.2.2.2.2.2.2.2.2.1
theorem dX11_init_20 : decode cX11_init 20 = .ok (.invokespecial 18, 3) := dgX11_init_0.2.2.2.2.2.2.2.2.2.2.1
theorem dX11_init_23 : decode cX11_init 23 = .ok (.putfield 19, 3) := dgX11_init_0.2.2.2.2.2.2.2.2.2.2.2.1
theorem dgX11_init_26 : (decode cX11_init 26 = .ok (.aload_n 0, 1)) ∧ (decode cX11_init 27 = .ok (.new 23, 3)) ∧ (decode cX11_init 30 = .ok (.dup, 1)) ∧ (decode cX11_init 31 = .ok (.invokespecial 25, 3)) ∧ (decode cX11_init 34 = .ok (.putfield 26, 3)) ∧ (decode cX11_init 37 = .ok (.new 30, 3)) ∧ (decode cX11_init 40 = .ok (.dup, 1)) ∧ (decode cX11_init 41 = .ok (.invokespecial 32, 3)) ∧ (decode cX11_init 44 = .ok (.astore_n 1, 1)) ∧ (decode cX11_init 45 = .ok (.aload_n 0, 1)) ∧ (decode cX11_init 46 = .ok (.aload_n 1, 1)) ∧ (decode cX11_init 47 = .ok (.putfield 33, 3)) ∧ True := dkW [(26, .aload_n 0, 1), (27, .new 23, 3), (30, .dup, 1), (31, .invokespecial 25, 3), (34, .putfield 26, 3), (37, .new 30, 3), (40, .dup, 1), (41, .invokespecial 32, 3), (44, .astore_n 1, 1), (45, .aload_n 0, 1), (46, .aload_n 1, 1), (47, .putfield 33, 3)] 26 (by decide +kernel)
theorem dX11_init_26 : decode cX11_init 26 = .ok (.aload_n 0, 1) := dgX11_init_26.1
theorem dX11_init_27 : decode cX11_init 27 = .ok (.new 23, 3) := dgX11_init_26.2.1
theorem dX11_init_30 : decode cX11_init 30 = .ok (.dup, 1) := dgX11_init_26.2.2.1
theorem dX11_init_31 : decode cX11_init 31 = .ok (.invokespecial 25, 3) := dgX11_init_26.2.2.2.1
theorem dX11_init_34 : decode cX11_init 34 = .ok (.putfield 26, 3) := dgX11_init_26.2.2.2.2.1
theorem dX11_init_37 : decode cX11_init 37 = .ok (.new 30, 3) := dgX11_init_26.2.2.2.2.2.1
theorem dX11_init_40 : decode cX11_init 40 = .ok (.dup, 1) := dgX11_init_26.2.2.2.2.2.2.1
theorem dX11_init_41 : decode cX11_init 41 = .ok (.invokespecial 32, 3) := dgX11_init_26.2.2.2.2.2.2.2.1
theorem dX11_init_44 : decode cX11_init 44 = .ok (.astore_n 1, 1) := dgX11_init_26.2.2.2.2.2.2.2.2.1
theorem dX11_init_45 : decode cX11_init 45 = .ok (.aload_n 0, 1) := dgX11_init_26.2.2.2.2.2.2.2.2.2.1
theorem dX11_init_46 : decode cX11_init 46 = .ok (.aload_n 1, 1) := dgX11_init_26.2.2.2.2.2.2.2.2.2.2.1
theorem dX11_init_47 : decode cX11_init 47 = .ok (.putfield 33, 3) := dgX11_init_26.2.2.2.2.2.2.2.2.2.2.2.1
theorem dgX11_init_50 : (decode cX11_init 50 = .ok (.aload_n 0, 1)) ∧ (decode cX11_init 51 = .ok (.new 37, 3)) ∧ (decode cX11_init 54 = .ok (.dup, 1)) ∧ (decode cX11_init 55 = .ok (.aload_n 1, 1)) ∧ (decode cX11_init 56 = .ok (.invokespecial 39, 3)) ∧ (decode cX11_init 59 = .ok (.putfield 42, 3)) ∧ (decode cX11_init 62 = .ok (.aload_n 0, 1)) ∧ (decode cX11_init 63 = .ok (.new 46, 3)) ∧ (decode cX11_init 66 = .ok (.dup, 1)) ∧ (decode cX11_init 67 = .ok (.aload_n 1, 1)) ∧ (decode cX11_init 68 = .ok (.invokespecial 48, 3)) ∧ (decode cX11_init 71 = .ok (.putfield 49, 3)) ∧ True := dkW [(50, .aload_n 0, 1), (51, .new 37, 3), (54, .dup, 1), (55, .aload_n 1, 1), (56, .invokespecial 39, 3), (59, .putfield 42, 3), (62, .aload_n 0, 1), (63, .new 46, 3), (66, .dup, 1), (67, .aload_n 1, 1), (68, .invokespecial 48, 3), (71, .putfield 49, 3)] 50 (by decide +kernel)
theorem dX11_init_50 : decode cX11_init 50 = .ok (.aload_n 0, 1) := dgX11_init_50.1
theorem dX11_init_51 : decode cX11_init 51 = .ok (.new 37, 3) := dgX11_init_50.2.1
theorem dX11_init_54 : decode cX11_init 54 = .ok (.dup, 1) := dgX11_init_50.2.2.1
theorem dX11_init_55 : decode cX11_init 55 = .ok (.aload_n 1, 1) := dgX11_init_50.2.2.2.1
theorem dX11_init_56 : decode cX11_init 56 = .ok (.invokespecial 39, 3) := dgX11_init_50.2.2.2.2.1
theorem dX11_init_59 : decode cX11_init 59 = .ok (.putfield 42, 3) := dgX11_init_50.2.2.2.2.2.1
theorem dX11_init_62 : decode cX11_init 62 = .ok (.aload_n 0, 1) := dgX11_init_50.2.2.2.2.2.2.1
theorem dX11_init_63 : decode cX11_init 63 = .ok (.new 46, 3) := dgX11_init_50.2.2.2.2.2.2.2.1
theorem dX11_init_66 : decode cX11_init 66 = .ok (.dup, 1) := dgX11_init_50.2.2.2.2.2.2.2.2.1
theorem dX11_init_67 : decode cX11_init 67 = .ok (.aload_n 1, 1) := dgX11_init_50.2.2.2.2.2.2.2.2.2.1
theorem dX11_init_68 : decode cX11_init 68 = .ok (.invokespecial 48, 3) := dgX11_init_50.2.2.2.2.2.2.2.2.2.2.1
theorem dX11_init_71 : decode cX11_init 71 = .ok (.putfield 49, 3) := dgX11_init_50.2.2.2.2.2.2.2.2.2.2.2.1
theorem dgX11_init_74 : (decode cX11_init 74 = .ok (.return_, 1)) ∧ True := dkW [(74, .return_, 1)] 74 (by decide +kernel)
theorem dX11_init_74 : decode cX11_init 74 = .ok (.return_, 1) := dgX11_init_74.1
abbrev rmX11_init : Room := { frames := 3, cells := 28, slots := 4943, locals := 53 }
noncomputable def fX11_init (N : Nat) (h : Hs) (t : Nat)  : Option (Hs) :=
  (some (nw h (8, 0))).bind fun h1 =>
  (fX8_init N h1 (sz h) ).bind fun r2 =>
  (qR 11 3 r2 (some t) (some (sz h))).bind fun h3 =>
  (some (nw h3 (0, 0))).bind fun h4 =>
  (fX0_init N h4 (sz h3) ).bind fun r5 =>
  (qR 11 4 r5 (some t) (some (sz h3))).bind fun h6 =>
  (some (nw h6 (6, 0))).bind fun h7 =>
  (fX6_init N h7 (sz h6) ).bind fun r8 =>
  (qR 11 5 r8 (some t) (some (sz h6))).bind fun h9 =>
  (some (nw h9 (5, 0))).bind fun h10 =>
  (fX5_init N h10 (sz h9) ).bind fun r11 =>
  (qR 11 0 r11 (some t) (some (sz h9))).bind fun h12 =>
  (some (nw h12 (10, 0))).bind fun h13 =>
  (fX10_init N h13 (sz h12) (some (sz h9))).bind fun r14 =>
  (qR 11 1 r14 (some t) (some (sz h12))).bind fun h15 =>
  (some (nw h15 (1, 0))).bind fun h16 =>
  (fX1_init N h16 (sz h15) (some (sz h9))).bind fun r17 =>
  (qR 11 2 r17 (some t) (some (sz h15))).bind fun h18 =>
  some h18
set_option maxHeartbeats 4000000 in
set_option maxRecDepth 20000 in
theorem kX11_init (l : Launch) (G : Gl) {N : Nat} {h : Hs} {t : Nat}  {r : Hs} (hf : fX11_init N h t  = some r) : CT l G yX11_init cX11_init 2 none rmX11_init [.inr (some t)] h (none) r := by
  refine mk_CT (by decide) (Nat.le_of_ble_eq_true rfl) ?_
  intro p e s m args below meth c C hret hin
  unfold fX11_init at hf
  refine r_aload_n C dX11_init_0 rfl ?_
  refine r_objInit C dX11_init_1 wd_23 wd_24 wd_25 (by decide) (Nat.le_of_ble_eq_true rfl) ?_
  refine r_aload_n C dX11_init_4 rfl ?_
  obtain ⟨h1, eh1, hf⟩ := bS hf
  cases eh1
  refine r_new C dX11_init_5 fc_8 wd_26 wd_27 wd_2 (by decide) (by decide) (by decide) ?_
  refine r_dup C dX11_init_8 ?_
  obtain ⟨r2, er2, hf⟩ := bS hf
  refine r_invIN0 (As := []) (host := "StageMachine") C dX11_init_9 mcX8_init (by decide) wd_29 rfl ⟨by decide, by decide⟩ ⟨by decide, by decide⟩ rfl (Nat.le_of_ble_eq_true rfl) (kX8_init l G er2) ?_
  obtain ⟨h3, eh3, hf⟩ := bS hf
  refine r_putR C dX11_init_12 fl_X11_10 (Or.inr ⟨ff_11_3, hin⟩) rfl eh3 ?_
  refine r_aload_n C dX11_init_15 rfl ?_
  obtain ⟨h4, eh4, hf⟩ := bS hf
  cases eh4
  refine r_new C dX11_init_16 fc_0 wd_63 wd_64 wd_3 (by decide) (by decide) (by decide) ?_
  refine r_dup C dX11_init_19 ?_
  obtain ⟨r5, er5, hf⟩ := bS hf
  refine r_invIN0 (As := []) (host := "StageMachine") C dX11_init_20 mcX0_init (by decide) wd_66 rfl ⟨by decide, by decide⟩ ⟨by decide, by decide⟩ rfl (Nat.le_of_ble_eq_true rfl) (kX0_init l G er5) ?_
  obtain ⟨h6, eh6, hf⟩ := bS hf
  refine r_putR C dX11_init_23 fl_X11_19 (Or.inr ⟨ff_11_4, hin⟩) rfl eh6 ?_
  refine r_aload_n C dX11_init_26 rfl ?_
  obtain ⟨h7, eh7, hf⟩ := bS hf
  cases eh7
  refine r_new C dX11_init_27 fc_6 wd_84 wd_85 wd_4 (by decide) (by decide) (by decide) ?_
  refine r_dup C dX11_init_30 ?_
  obtain ⟨r8, er8, hf⟩ := bS hf
  refine r_invIN0 (As := []) (host := "StageMachine") C dX11_init_31 mcX6_init (by decide) wd_87 rfl ⟨by decide, by decide⟩ ⟨by decide, by decide⟩ rfl (Nat.le_of_ble_eq_true rfl) (kX6_init l G er8) ?_
  obtain ⟨h9, eh9, hf⟩ := bS hf
  refine r_putR C dX11_init_34 fl_X11_26 (Or.inr ⟨ff_11_5, hin⟩) rfl eh9 ?_
  obtain ⟨h10, eh10, hf⟩ := bS hf
  cases eh10
  refine r_new C dX11_init_37 fc_5 wd_115 wd_116 wd_5 (by decide) (by decide) (by decide) ?_
  refine r_dup C dX11_init_40 ?_
  obtain ⟨r11, er11, hf⟩ := bS hf
  refine r_invIN0 (As := []) (host := "StageMachine") C dX11_init_41 mcX5_init (by decide) wd_118 rfl ⟨by decide, by decide⟩ ⟨by decide, by decide⟩ rfl (Nat.le_of_ble_eq_true rfl) (kX5_init l G er11) ?_
  refine r_astore_n C dX11_init_44 (by decide) ?_
  refine r_aload_n C dX11_init_45 rfl ?_
  refine r_aload_n C dX11_init_46 rfl ?_
  obtain ⟨h12, eh12, hf⟩ := bS hf
  refine r_putR C dX11_init_47 fl_X11_33 (Or.inr ⟨ff_11_0, hin⟩) rfl eh12 ?_
  refine r_aload_n C dX11_init_50 rfl ?_
  obtain ⟨h13, eh13, hf⟩ := bS hf
  cases eh13
  refine r_new C dX11_init_51 fc_10 wd_190 wd_191 wd_6 (by decide) (by decide) (by decide) ?_
  refine r_dup C dX11_init_54 ?_
  refine r_aload_n C dX11_init_55 rfl ?_
  obtain ⟨r14, er14, hf⟩ := bS hf
  refine r_invI0 (As := [.inr (some (sz h9))]) C dX11_init_56 mcX10_init wd_192 wd_193 rfl ⟨by decide, by decide⟩ ⟨by decide, by decide⟩ rfl (Nat.le_of_ble_eq_true rfl) (kX10_init l G er14) ?_
  obtain ⟨h15, eh15, hf⟩ := bS hf
  refine r_putR C dX11_init_59 fl_X11_42 (Or.inr ⟨ff_11_1, hin⟩) rfl eh15 ?_
  refine r_aload_n C dX11_init_62 rfl ?_
  obtain ⟨h16, eh16, hf⟩ := bS hf
  cases eh16
  refine r_new C dX11_init_63 fc_1 wd_226 wd_227 wd_8 (by decide) (by decide) (by decide) ?_
  refine r_dup C dX11_init_66 ?_
  refine r_aload_n C dX11_init_67 rfl ?_
  obtain ⟨r17, er17, hf⟩ := bS hf
  refine r_invI0 (As := [.inr (some (sz h9))]) C dX11_init_68 mcX1_init wd_228 wd_229 rfl ⟨by decide, by decide⟩ ⟨by decide, by decide⟩ rfl (Nat.le_of_ble_eq_true rfl) (kX1_init l G er17) ?_
  obtain ⟨h18, eh18, hf⟩ := bS hf
  refine r_putR C dX11_init_71 fl_X11_49 (Or.inr ⟨ff_11_2, hin⟩) rfl eh18 ?_
  exact r_vretF C dX11_init_74 hret hf (by decide) (by decide)

theorem dgX11_deed_0 : (decode cX11_deed 0 = .ok (.iload_n 2, 1)) ∧ (decode cX11_deed 1 = .ok (.ifCond .eq 8, 3)) ∧ (decode cX11_deed 4 = .ok (.aload_n 0, 1)) ∧ (decode cX11_deed 5 = .ok (.iconst 0, 1)) ∧ (decode cX11_deed 6 = .ok (.putfield 157, 3)) ∧ (decode cX11_deed 9 = .ok (.iload_n 1, 1)) ∧ (decode cX11_deed 10 = .ok (.ireturn, 1)) ∧ True := dkW [(0, .iload_n 2, 1), (1, .ifCond .eq 8, 3), (4, .aload_n 0, 1), (5, .iconst 0, 1), (6, .putfield 157, 3), (9, .iload_n 1, 1), (10, .ireturn, 1)] 0 (by decide +kernel)
theorem dX11_deed_0 : decode cX11_deed 0 = .ok (.iload_n 2, 1) := dgX11_deed_0.1
theorem dX11_deed_1 : decode cX11_deed 1 = .ok (.ifCond .eq 8, 3) := dgX11_deed_0.2.1
theorem dX11_deed_4 : decode cX11_deed 4 = .ok (.aload_n 0, 1) := dgX11_deed_0.2.2.1
theorem dX11_deed_5 : decode cX11_deed 5 = .ok (.iconst 0, 1) := dgX11_deed_0.2.2.2.1
theorem dX11_deed_6 : decode cX11_deed 6 = .ok (.putfield 157, 3) := dgX11_deed_0.2.2.2.2.1
theorem dX11_deed_9 : decode cX11_deed 9 = .ok (.iload_n 1, 1) := dgX11_deed_0.2.2.2.2.2.1
theorem dX11_deed_10 : decode cX11_deed 10 = .ok (.ireturn, 1) := dgX11_deed_0.2.2.2.2.2.2.1
abbrev rmX11_deed : Room := { frames := 0, cells := 0, slots := 0, locals := 0 }
noncomputable def fX11_deed_b9 (N : Nat)  (t : Nat) (h : Hs) (x1 : Int32) : Option (Int32 × Hs) :=
  some (x1, h)
set_option maxHeartbeats 4000000 in
set_option maxRecDepth 20000 in
theorem wX11_deed_b9 {p : Program} {l : Launch} {e : Env} {s : State} {m : MethodId} {args : Array Value} {below : List Frame} {meth : Method} {c : Code} {G : Gl} {N : Nat} {h : Hs} {r : Int32 × Hs}  {t : Nat} {x1 : Int32} (C : Cx p s m args meth c cX11_deed RX11 3 G) (hret : meth.sig.returnType = (some .int))  (hf : fX11_deed_b9 N  t h x1 = some r) : V p l e rmX11_deed s m args below meth c G 3 (MQ below (QcG G (some (.inl r.1)) r.2) args s rmX11_deed.cells rmX11_deed.slots (AG G)) h 0 0 9 [some (.inr (some t)), some (.inl x1), none] [] := by
  unfold fX11_deed_b9 at hf
  refine r_iload_n C dX11_deed_9 rfl ?_
  exact r_iretF C dX11_deed_10 hret hf (by decide) (by decide)
noncomputable def fX11_deed (N : Nat) (h : Hs) (t : Nat) (p1 : Int32) (p2 : Int32) : Option (Int32 × Hs) :=
  if p2 = 0 then (
  fX11_deed_b9 N t h p1)
  else (qZ 11 6 h (some t) 0).bind fun h1 =>
  fX11_deed_b9 N t h1 p1
set_option maxHeartbeats 4000000 in
set_option maxRecDepth 20000 in
theorem kX11_deed (l : Launch) (G : Gl) {N : Nat} {h : Hs} {t : Nat} {p1 : Int32} {p2 : Int32} {r : Int32 × Hs} (hf : fX11_deed N h t p1 p2 = some r) : CT l G yX11_deed cX11_deed 3 (some .int) rmX11_deed [.inr (some t), .inl p1, .inl p2] h (some (.inl r.1)) r.2 := by
  refine mk_CT (by decide) (Nat.le_of_ble_eq_true rfl) ?_
  intro p e s m args below meth c C hret hin
  unfold fX11_deed at hf
  refine r_iload_n C dX11_deed_0 rfl ?_
  refine r_if_eq (tgt := 9) C dX11_deed_1 (by decide) (fun hc => ?_) (fun hc => ?_)
  · have hf := ifT hf hc
    exact V.sub (wX11_deed_b9 C hret hf) (LW_s rfl (LW_s rfl (LW_n (LW_e))))
  · have hf := ifF hf hc
    refine r_aload_n C dX11_deed_4 rfl ?_
    refine r_iconst (v := 0) C dX11_deed_5 (by decide) ?_
    obtain ⟨h1, eh1, hf⟩ := bS hf
    refine r_putZ C dX11_deed_6 fl_X11_157 (Or.inl fn_11_6) rfl eh1 ?_
    exact V.sub (wX11_deed_b9 C hret hf) (LW_s rfl (LW_s rfl (LW_n (LW_e))))

theorem dgX11_thing_0 : (decode cX11_thing 0 = .ok (.aload_n 0, 1)) ∧ (decode cX11_thing 1 = .ok (.getfield 33, 3)) ∧ (decode cX11_thing 4 = .ok (.iload_n 1, 1)) ∧ (decode cX11_thing 5 = .ok (.iload_n 2, 1)) ∧ (decode cX11_thing 6 = .ok (.iload_n 3, 1)) ∧ (decode cX11_thing 7 = .ok (.iload 4, 2)) ∧ (decode cX11_thing 9 = .ok (.invokevirtual 53, 3)) ∧ (decode cX11_thing 12 = .ok (.istore 5, 2)) ∧ (decode cX11_thing 14 = .ok (.aload_n 0, 1)) ∧ (decode cX11_thing 15 = .ok (.iload 5, 2)) ∧ (decode cX11_thing 17 = .ok (.iload 5, 2)) ∧ (decode cX11_thing 19 = .ok (.ifCond .lt 7, 3)) ∧ True := dkW [(0, .aload_n 0, 1), (1, .getfield 33, 3), (4, .iload_n 1, 1), (5, .iload_n 2, 1), (6, .iload_n 3, 1), (7, .iload 4, 2), (9, .invokevirtual 53, 3), (12, .istore 5, 2), (14, .aload_n 0, 1), (15, .iload 5, 2), (17, .iload 5, 2), (19, .ifCond .lt 7, 3)] 0 (by decide +kernel)
theorem dX11_thing_0 : decode cX11_thing 0 = .ok (.aload_n 0, 1) := dgX11_thing_0.1
theorem dX11_thing_1 : decode cX11_thing 1 = .ok (.getfield 33, 3) := dgX11_thing_0.2.1
theorem dX11_thing_4 : decode cX11_thing 4 = .ok (.iload_n 1, 1) := dgX11_thing_0.2.2.1
theorem dX11_thing_5 : decode cX11_thing 5 = .ok (.iload_n 2, 1) := dgX11_thing_0.2.2.2.1
theorem dX11_thing_6 : decode cX11_thing 6 = .ok (.iload_n 3, 1) := dgX11_thing_0.2.2.2.2.1
theorem dX11_thing_7 : decode cX11_thing 7 = .ok (.iload 4, 2) := dgX11_thing_0.2.2.2.2.2.1
theorem dX11_thing_9 : decode cX11_thing 9 = .ok (.invokevirtual 53, 3) := dgX11_thing_0.2.2.2.2.2.2.1
theorem dX11_thing_12 : decode cX11_thing 12 = .ok (.istore 5, 2) := dgX11_thing_0.2.2.2.2.2.2.2.1
theorem dX11_thing_14 : decode cX11_thing 14 = .ok (.aload_n 0, 1) := dgX11_thing_0.2.2.2.2.2.2.2.2.1
theorem dX11_thing_15 : decode cX11_thing 15 = .ok (.iload 5, 2) := dgX11_thing_0.2.2.2.2.2.2.2.2.2.1
theorem dX11_thing_17 : decode cX11_thing 17 = .ok (.iload 5, 2) := dgX11_thing_0.2.2.2.2.2.2.2.2.2.2.1
theorem dX11_thing_19 : decode cX11_thing 19 = .ok (.ifCond .lt 7, 3) := dgX11_thing_0.2.2.2.2.2.2.2.2.2.2.2.1
theorem dgX11_thing_22 : (decode cX11_thing 22 = .ok (.iconst 1, 1)) ∧ (decode cX11_thing 23 = .ok (.goto 4, 3)) ∧ (decode cX11_thing 26 = .ok (.iconst 0, 1)) ∧ (decode cX11_thing 27 = .ok (.invokevirtual 57, 3)) ∧ (decode cX11_thing 30 = .ok (.ireturn, 1)) ∧ True := dkW [(22, .iconst 1, 1), (23, .goto 4, 3), (26, .iconst 0, 1), (27, .invokevirtual 57, 3), (30, .ireturn, 1)] 22 (by decide +kernel)
theorem dX11_thing_22 : decode cX11_thing 22 = .ok (.iconst 1, 1) := dgX11_thing_22.1
theorem dX11_thing_23 : decode cX11_thing 23 = .ok (.goto 4, 3) := dgX11_thing_22.2.1
theorem dX11_thing_26 : decode cX11_thing 26 = .ok (.iconst 0, 1) := dgX11_thing_22.2.2.1
theorem dX11_thing_27 : decode cX11_thing 27 = .ok (.invokevirtual 57, 3) := dgX11_thing_22.2.2.2.1
theorem dX11_thing_30 : decode cX11_thing 30 = .ok (.ireturn, 1) := dgX11_thing_22.2.2.2.2.1
abbrev rmX11_thing : Room := { frames := 3, cells := 2, slots := 22, locals := 80 }
noncomputable def fX11_thing_b27 (N : Nat)  (t : Nat) (h : Hs) (q0 : Option Nat) (u1 : Int32) (u2 : Int32) : Option (Int32 × Hs) :=
  (rc 11 h q0).bind fun a2 =>
  (fX11_deed N h a2 u1 u2).bind fun r1 =>
  some (r1.1, r1.2)
set_option maxHeartbeats 4000000 in
set_option maxRecDepth 20000 in
theorem wX11_thing_b27 {p : Program} {l : Launch} {e : Env} {s : State} {m : MethodId} {args : Array Value} {below : List Frame} {meth : Method} {c : Code} {G : Gl} {N : Nat} {h : Hs} {r : Int32 × Hs}  {t : Nat} {q0 : Option Nat} {u1 : Int32} {u2 : Int32} (C : Cx p s m args meth c cX11_thing RX11 6 G) (hret : meth.sig.returnType = (some .int))  (hf : fX11_thing_b27 N  t h q0 u1 u2 = some r) : V p l e rmX11_thing s m args below meth c G 6 (MQ below (QcG G (some (.inl r.1)) r.2) args s rmX11_thing.cells rmX11_thing.slots (AG G)) h 2 22 27 [some (.inr (some t)), none, none, none, none, none] [.inl u2, .inl u1, .inr q0] := by
  unfold fX11_thing_b27 at hf
  obtain ⟨a2, ea2, hf⟩ := bS hf
  obtain ⟨r1, er1, hf⟩ := bS hf
  refine r_invV1 (As := [.inl u1, .inl u2]) (ci := 11) C dX11_thing_27 mcX11_deed wd_364 wd_366 wp_0 rfl rfl (by decide) ⟨by decide, by decide⟩ ⟨by decide, by decide⟩ rfl (Nat.le_of_ble_eq_true rfl) ea2 (kX11_deed l G er1) ?_
  exact r_iretF C dX11_thing_30 hret hf (by decide) (by decide)
noncomputable def fX11_thing (N : Nat) (h : Hs) (t : Nat) (p1 : Int32) (p2 : Int32) (p3 : Int32) (p4 : Int32) : Option (Int32 × Hs) :=
  (oR 11 0 h (some t)).bind fun o1 =>
  (rc 5 h o1).bind fun a3 =>
  (fX5_addThing N h a3 p1 p2 p3 p4).bind fun r2 =>
  if r2.1 < 0 then (
  fX11_thing_b27 N t r2.2 (some t) r2.1 0)
  else fX11_thing_b27 N t r2.2 (some t) r2.1 1
set_option maxHeartbeats 4000000 in
set_option maxRecDepth 20000 in
theorem kX11_thing (l : Launch) (G : Gl) {N : Nat} {h : Hs} {t : Nat} {p1 : Int32} {p2 : Int32} {p3 : Int32} {p4 : Int32} {r : Int32 × Hs} (hf : fX11_thing N h t p1 p2 p3 p4 = some r) : CT l G yX11_thing cX11_thing 6 (some .int) rmX11_thing [.inr (some t), .inl p1, .inl p2, .inl p3, .inl p4] h (some (.inl r.1)) r.2 := by
  refine mk_CT (by decide) (Nat.le_of_ble_eq_true rfl) ?_
  intro p e s m args below meth c C hret hin
  unfold fX11_thing at hf
  refine r_aload_n C dX11_thing_0 rfl ?_
  obtain ⟨o1, eo1, hf⟩ := bS hf
  refine r_getR C dX11_thing_1 fl_X11_33 rfl eo1 ?_
  refine r_iload_n C dX11_thing_4 rfl ?_
  refine r_iload_n C dX11_thing_5 rfl ?_
  refine r_iload_n C dX11_thing_6 rfl ?_
  refine r_iload C dX11_thing_7 rfl ?_
  obtain ⟨a3, ea3, hf⟩ := bS hf
  obtain ⟨r2, er2, hf⟩ := bS hf
  refine r_invV1 (As := [.inl p1, .inl p2, .inl p3, .inl p4]) (ci := 5) C dX11_thing_9 mcX5_addThing wd_286 wd_287 wd_288 rfl rfl (by decide) ⟨by decide, by decide⟩ ⟨by decide, by decide⟩ rfl (Nat.le_of_ble_eq_true rfl) ea3 (kX5_addThing l G er2) ?_
  refine r_istore C dX11_thing_12 (by decide) ?_
  refine r_aload_n C dX11_thing_14 rfl ?_
  refine r_iload C dX11_thing_15 rfl ?_
  refine r_iload C dX11_thing_17 rfl ?_
  refine r_if_lt (tgt := 26) C dX11_thing_19 (by decide) (fun hc => ?_) (fun hc => ?_)
  · have hf := ifT hf hc
    refine r_iconst (v := 0) C dX11_thing_26 (by decide) ?_
    exact V.sub (wX11_thing_b27 C hret hf) (LW_s rfl (LW_n (LW_n (LW_n (LW_n (LW_n (LW_e)))))))
  · have hf := ifF hf hc
    refine r_iconst (v := 1) C dX11_thing_22 (by decide) ?_
    refine r_goto (tgt := 27) C dX11_thing_23 (by decide) ?_
    exact V.sub (wX11_thing_b27 C hret hf) (LW_s rfl (LW_n (LW_n (LW_n (LW_n (LW_n (LW_e)))))))

theorem dgX11_ofThing_0 : (decode cX11_ofThing 0 = .ok (.aload_n 0, 1)) ∧ (decode cX11_ofThing 1 = .ok (.getfield 33, 3)) ∧ (decode cX11_ofThing 4 = .ok (.iload_n 1, 1)) ∧ (decode cX11_ofThing 5 = .ok (.invokevirtual 61, 3)) ∧ (decode cX11_ofThing 8 = .ok (.astore_n 3, 1)) ∧ (decode cX11_ofThing 9 = .ok (.aload_n 3, 1)) ∧ (decode cX11_ofThing 10 = .ok (.ifnonnull 8, 3)) ∧ (decode cX11_ofThing 13 = .ok (.bipush (-2), 2)) ∧ (decode cX11_ofThing 15 = .ok (.goto 8, 3)) ∧ (decode cX11_ofThing 18 = .ok (.aload_n 3, 1)) ∧ (decode cX11_ofThing 19 = .ok (.iload_n 2, 1)) ∧ (decode cX11_ofThing 20 = .ok (.invokevirtual 65, 3)) ∧ True := dkW [(0, .aload_n 0, 1), (1, .getfield 33, 3), (4, .iload_n 1, 1), (5, .invokevirtual 61, 3), (8, .astore_n 3, 1), (9, .aload_n 3, 1), (10, .ifnonnull 8, 3), (13, .bipush (-2), 2), (15, .goto 8, 3), (18, .aload_n 3, 1), (19, .iload_n 2, 1), (20, .invokevirtual 65, 3)] 0 (by decide +kernel)
theorem dX11_ofThing_0 : decode cX11_ofThing 0 = .ok (.aload_n 0, 1) := dgX11_ofThing_0.1
theorem dX11_ofThing_1 : decode cX11_ofThing 1 = .ok (.getfield 33, 3) := dgX11_ofThing_0.2.1
theorem dX11_ofThing_4 : decode cX11_ofThing 4 = .ok (.iload_n 1, 1) := dgX11_ofThing_0.2.2.1
theorem dX11_ofThing_5 : decode cX11_ofThing 5 = .ok (.invokevirtual 61, 3) := dgX11_ofThing_0.2.2.2.1
theorem dX11_ofThing_8 : decode cX11_ofThing 8 = .ok (.astore_n 3, 1) := dgX11_ofThing_0.2.2.2.2.1
theorem dX11_ofThing_9 : decode cX11_ofThing 9 = .ok (.aload_n 3, 1) := dgX11_ofThing_0.2.2.2.2.2.1
theorem dX11_ofThing_10 : decode cX11_ofThing 10 = .ok (.ifnonnull 8, 3) := dgX11_ofThing_0.2.2.2.2.2.2.1
theorem dX11_ofThing_13 : decode cX11_ofThing 13 = .ok (.bipush (-2), 2) := dgX11_ofThing_0.2.2.2.2.2.2.2.1
theorem dX11_ofThing_15 : decode cX11_ofThing 15 = .ok (.goto 8, 3) := dgX11_ofThing_0.2.2.2.2.2.2.2.2.1
theorem dX11_ofThing_18 : decode cX11_ofThing 18 = .ok (.aload_n 3, 1) := dgX11_ofThing_0.2.2.2.2.2.2.2.2.2.1
theorem dX11_ofThing_19 : decode cX11_ofThing 19 = .ok (.iload_n 2, 1) := dgX11_ofThing_0.2.2.2.2.2.2.2.2.2.2.1
theorem dX11_ofThing_20 : decode cX11_ofThing 20 = .ok (.invokevirtual 65, 3) := dgX11_ofThing_0.2.2.2.2.2.2.2.2.2.2.2.1
theorem dgX11_ofThing_23 : (decode cX11_ofThing 23 = .ok (.ireturn, 1)) ∧ True := dkW [(23, .ireturn, 1)] 23 (by decide +kernel)
theorem dX11_ofThing_23 : decode cX11_ofThing 23 = .ok (.ireturn, 1) := dgX11_ofThing_23.1
abbrev rmX11_ofThing : Room := { frames := 2, cells := 0, slots := 0, locals := 43 }
noncomputable def fX11_ofThing_b23 (N : Nat)  (t : Nat) (h : Hs) (u0 : Int32) : Option (Int32 × Hs) :=
  some (u0, h)
set_option maxHeartbeats 4000000 in
set_option maxRecDepth 20000 in
theorem wX11_ofThing_b23 {p : Program} {l : Launch} {e : Env} {s : State} {m : MethodId} {args : Array Value} {below : List Frame} {meth : Method} {c : Code} {G : Gl} {N : Nat} {h : Hs} {r : Int32 × Hs}  {t : Nat} {u0 : Int32} (C : Cx p s m args meth c cX11_ofThing RX11 4 G) (hret : meth.sig.returnType = (some .int))  (hf : fX11_ofThing_b23 N  t h u0 = some r) : V p l e rmX11_ofThing s m args below meth c G 4 (MQ below (QcG G (some (.inl r.1)) r.2) args s rmX11_ofThing.cells rmX11_ofThing.slots (AG G)) h 0 0 23 [some (.inr (some t)), none, none, none] [.inl u0] := by
  unfold fX11_ofThing_b23 at hf
  exact r_iretF C dX11_ofThing_23 hret hf (by decide) (by decide)
noncomputable def fX11_ofThing (N : Nat) (h : Hs) (t : Nat) (p1 : Int32) (p2 : Int32) : Option (Int32 × Hs) :=
  (oR 11 0 h (some t)).bind fun o1 =>
  (rc 5 h o1).bind fun a3 =>
  (fX5_thingNumbered N h a3 p1).bind fun r2 =>
  if r2.1 = none then (
  fX11_ofThing_b23 N t r2.2 (-2))
  else (rc 9 r2.2 r2.1).bind fun a5 =>
  (fX9_tell N r2.2 a5 p2).bind fun r4 =>
  fX11_ofThing_b23 N t r4.2 r4.1
set_option maxHeartbeats 4000000 in
set_option maxRecDepth 20000 in
theorem kX11_ofThing (l : Launch) (G : Gl) {N : Nat} {h : Hs} {t : Nat} {p1 : Int32} {p2 : Int32} {r : Int32 × Hs} (hf : fX11_ofThing N h t p1 p2 = some r) : CT l G yX11_ofThing cX11_ofThing 4 (some .int) rmX11_ofThing [.inr (some t), .inl p1, .inl p2] h (some (.inl r.1)) r.2 := by
  refine mk_CT (by decide) (Nat.le_of_ble_eq_true rfl) ?_
  intro p e s m args below meth c C hret hin
  unfold fX11_ofThing at hf
  refine r_aload_n C dX11_ofThing_0 rfl ?_
  obtain ⟨o1, eo1, hf⟩ := bS hf
  refine r_getR C dX11_ofThing_1 fl_X11_33 rfl eo1 ?_
  refine r_iload_n C dX11_ofThing_4 rfl ?_
  obtain ⟨a3, ea3, hf⟩ := bS hf
  obtain ⟨r2, er2, hf⟩ := bS hf
  refine r_invV1 (As := [.inl p1]) (ci := 5) C dX11_ofThing_5 mcX5_thingNumbered wd_372 wd_373 wd_374 rfl rfl (by decide) ⟨by decide, by decide⟩ ⟨by decide, by decide⟩ rfl (Nat.le_of_ble_eq_true rfl) ea3 (kX5_thingNumbered l G er2) ?_
  refine r_astore_n C dX11_ofThing_8 (by decide) ?_
  refine r_aload_n C dX11_ofThing_9 rfl ?_
  refine r_ifnonnull (tgt := 18) C dX11_ofThing_10 (by decide) (fun hc => ?_) (fun hc => ?_)
  · have hf := ifF hf hc
    refine r_aload_n C dX11_ofThing_18 rfl ?_
    refine r_iload_n C dX11_ofThing_19 rfl ?_
    obtain ⟨a5, ea5, hf⟩ := bS hf
    obtain ⟨r4, er4, hf⟩ := bS hf
    refine r_invV1 (As := [.inl p2]) (ci := 9) C dX11_ofThing_20 mcX9_tell wd_376 wd_377 wd_378 rfl rfl (by decide) ⟨by decide, by decide⟩ ⟨by decide, by decide⟩ rfl (Nat.le_of_ble_eq_true rfl) ea5 (kX9_tell l G er4) ?_
    exact V.sub (wX11_ofThing_b23 C hret hf) (LW_s rfl (LW_n (LW_n (LW_n (LW_e)))))
  · have hf := ifT hf hc
    refine r_bipush (v := -2) C dX11_ofThing_13 (by decide) ?_
    refine r_goto (tgt := 23) C dX11_ofThing_15 (by decide) ?_
    exact V.sub (wX11_ofThing_b23 C hret hf) (LW_s rfl (LW_n (LW_n (LW_n (LW_e)))))

theorem dgX11_on_0 : (decode cX11_on 0 = .ok (.aload_n 0, 1)) ∧ (decode cX11_on 1 = .ok (.getfield 33, 3)) ∧ (decode cX11_on 4 = .ok (.iload_n 1, 1)) ∧ (decode cX11_on 5 = .ok (.invokevirtual 71, 3)) ∧ (decode cX11_on 8 = .ok (.ireturn, 1)) ∧ True := dkW [(0, .aload_n 0, 1), (1, .getfield 33, 3), (4, .iload_n 1, 1), (5, .invokevirtual 71, 3), (8, .ireturn, 1)] 0 (by decide +kernel)
theorem dX11_on_0 : decode cX11_on 0 = .ok (.aload_n 0, 1) := dgX11_on_0.1
theorem dX11_on_1 : decode cX11_on 1 = .ok (.getfield 33, 3) := dgX11_on_0.2.1
theorem dX11_on_4 : decode cX11_on 4 = .ok (.iload_n 1, 1) := dgX11_on_0.2.2.1
theorem dX11_on_5 : decode cX11_on 5 = .ok (.invokevirtual 71, 3) := dgX11_on_0.2.2.2.1
theorem dX11_on_8 : decode cX11_on 8 = .ok (.ireturn, 1) := dgX11_on_0.2.2.2.2.1
abbrev rmX11_on : Room := { frames := 3, cells := 0, slots := 0, locals := 65 }
noncomputable def fX11_on (N : Nat) (h : Hs) (t : Nat) (p1 : Int32) : Option (Int32 × Hs) :=
  (oR 11 0 h (some t)).bind fun o1 =>
  (rc 5 h o1).bind fun a3 =>
  (fX5_standingOn N h a3 p1).bind fun r2 =>
  some (r2.1, r2.2)
set_option maxHeartbeats 4000000 in
set_option maxRecDepth 20000 in
theorem kX11_on (l : Launch) (G : Gl) {N : Nat} {h : Hs} {t : Nat} {p1 : Int32} {r : Int32 × Hs} (hf : fX11_on N h t p1 = some r) : CT l G yX11_on cX11_on 2 (some .int) rmX11_on [.inr (some t), .inl p1] h (some (.inl r.1)) r.2 := by
  refine mk_CT (by decide) (Nat.le_of_ble_eq_true rfl) ?_
  intro p e s m args below meth c C hret hin
  unfold fX11_on at hf
  refine r_aload_n C dX11_on_0 rfl ?_
  obtain ⟨o1, eo1, hf⟩ := bS hf
  refine r_getR C dX11_on_1 fl_X11_33 rfl eo1 ?_
  refine r_iload_n C dX11_on_4 rfl ?_
  obtain ⟨a3, ea3, hf⟩ := bS hf
  obtain ⟨r2, er2, hf⟩ := bS hf
  refine r_invV1 (As := [.inl p1]) (ci := 5) C dX11_on_5 mcX5_standingOn wd_384 wd_385 wd_386 rfl rfl (by decide) ⟨by decide, by decide⟩ ⟨by decide, by decide⟩ rfl (Nat.le_of_ble_eq_true rfl) ea3 (kX5_standingOn l G er2) ?_
  exact r_iretF C dX11_on_8 hret hf (by decide) (by decide)
