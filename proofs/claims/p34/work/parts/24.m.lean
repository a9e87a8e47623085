theorem dgX12_candle_0 : (decode cX12_candle 0 = .ok (.iload_n 1, 1)) ∧ (decode cX12_candle 1 = .ok (.iconst 1, 1)) ∧ (decode cX12_candle 2 = .ok (.sipush 300, 3)) ∧ (decode cX12_candle 5 = .ok (.invokestatic 149, 3)) ∧ (decode cX12_candle 8 = .ok (.ifCond .ne 5, 3)) ∧ True := dkW [(0, .iload_n 1, 1), (1, .iconst 1, 1), (2, .sipush 300, 3), (5, .invokestatic 149, 3), (8, .ifCond .ne 5, 3)] 0 (by decide +kernel)
theorem dX12_candle_0 : decode cX12_candle 0 = .ok (.iload_n 1, 1) := dgX12_candle_0.1
theorem dX12_candle_1 : decode cX12_candle 1 = .ok (.iconst 1, 1) := dgX12_candle_0.2.1
theorem dX12_candle_2 : decode cX12_candle 2 = .ok (.sipush 300, 3) := dgX12_candle_0.2.2.1
theorem dX12_candle_5 : decode cX12_candle 5 = .ok (.invokestatic 149, 3) := dgX12_candle_0.2.2.2.1
theorem dX12_candle_8 : decode cX12_candle 8 = .ok (.ifCond .ne 5, 3) := dgX12_candle_0.2.2.2.2.1
theorem dX12_candle_11 : decode cX12_candle 11 = .ok (.iconst (-1), 1) := by decide +kernel
theorem dgX12_candle_12 : (decode cX12_candle 12 = .ok (.ireturn, 1)) ∧ (decode cX12_candle 13 = .ok (.aload_n 0, 1)) ∧ (decode cX12_candle 14 = .ok (.getfield 281, 3)) ∧ (decode cX12_candle 17 = .ok (.bipush 60, 2)) ∧ (decode cX12_candle 19 = .ok (.if_icmp .ne 6, 3)) ∧ (decode cX12_candle 22 = .ok (.bipush (-3), 2)) ∧ (decode cX12_candle 24 = .ok (.ireturn, 1)) ∧ (decode cX12_candle 25 = .ok (.aload_n 0, 1)) ∧ (decode cX12_candle 26 = .ok (.getfield 119, 3)) ∧ (decode cX12_candle 29 = .ok (.aload_n 0, 1)) ∧ (decode cX12_candle 30 = .ok (.getfield 281, 3)) ∧ (decode cX12_candle 33 = .ok (.iload_n 1, 1)) ∧ True := dkW [(12, .ireturn, 1), (13, .aload_n 0, 1), (14, .getfield 281, 3), (17, .bipush 60, 2), (19, .if_icmp .ne 6, 3), (22, .bipush (-3), 2), (24, .ireturn, 1), (25, .aload_n 0, 1), (26, .getfield 119, 3), (29, .aload_n 0, 1), (30, .getfield 281, 3), (33, .iload_n 1, 1)] 12 (by decide +kernel)
theorem dX12_candle_12 : decode cX12_candle 12 = .ok (.ireturn, 1) := dgX12_candle_12.1
theorem dX12_candle_13 : decode cX12_candle 13 = .ok (.aload_n 0, 1) := dgX12_candle_12.2.1
theorem dX12_candle_14 : decode cX12_candle 14 = .ok (.getfield 281, 3) := dgX12_candle_12.2.2.1
theorem dX12_candle_17 : decode cX12_candle 17 = .ok (.bipush 60, 2) := dgX12_candle_12.2.2.2.1
theorem dX12_candle_19 : decode cX12_candle 19 = .ok (.if_icmp .ne 6, 3) := dgX12_candle_12.2.2.2.2.1
theorem dX12_candle_22 : decode cX12_candle 22 = .ok (.bipush (-3), 2) := dgX12_candle_12.2.2.2.2.2.1
theorem dX12_candle_24 : decode cX12_candle 24 = .ok (.ireturn, 1) := dgX12_candle_12.2.2.2.2.2.2.1
theorem dX12_candle_25 : decode cX12_candle 25 = .ok (.aload_n 0, 1) := dgX12_candle_12.2.2.2.2.2.2.2.1
theorem dX12_candle_26 : decode cX12_candle 26 = .ok (.getfield 119, 3) := dgX12_candle_12.2.2.2.2.2.2.2.2.1
theorem dX12_candle_29 : decode cX12_candle 29 = .ok (.aload_n 0, 1) := dgX12_candle_12.2.2.2.2.2.2.2.2.2.1
theorem dX12_candle_30 : decode cX12_candle 30 = .ok (.getfield 281, 3) := dgX12_candle_12.2.2.2.2.2.2.2.2.2.2.1
theorem dX12_candle_33 : decode cX12_candle 33 = .ok (.iload_n 1, 1) := dgX12_candle_12.2.2.2.2.2.2.2.2.2.2.2.1
theorem dgX12_candle_34 : (decode cX12_candle 34 = .ok (.iastore, 1)) ∧ (decode cX12_candle 35 = .ok (.aload_n 0, 1)) ∧ (decode cX12_candle 36 = .ok (.getfield 122, 3)) ∧ (decode cX12_candle 39 = .ok (.aload_n 0, 1)) ∧ (decode cX12_candle 40 = .ok (.getfield 281, 3)) ∧ (decode cX12_candle 43 = .ok (.aload_n 0, 1)) ∧ (decode cX12_candle 44 = .ok (.getfield 278, 3)) ∧ (decode cX12_candle 47 = .ok (.iastore, 1)) ∧ (decode cX12_candle 48 = .ok (.aload_n 0, 1)) ∧ (decode cX12_candle 49 = .ok (.dup, 1)) ∧ (decode cX12_candle 50 = .ok (.getfield 281, 3)) ∧ (decode cX12_candle 53 = .ok (.iconst 1, 1)) ∧ True := dkW [(34, .iastore, 1), (35, .aload_n 0, 1), (36, .getfield 122, 3), (39, .aload_n 0, 1), (40, .getfield 281, 3), (43, .aload_n 0, 1), (44, .getfield 278, 3), (47, .iastore, 1), (48, .aload_n 0, 1), (49, .dup, 1), (50, .getfield 281, 3), (53, .iconst 1, 1)] 34 (by decide +kernel)
theorem dX12_candle_34 : decode cX12_candle 34 = .ok (.iastore, 1) := dgX12_candle_34.1
theorem dX12_candle_35 : decode cX12_candle 35 = .ok (.aload_n 0, 1) := dgX12_candle_34.2.1
theorem dX12_candle_36 : decode cX12_candle 36 = .ok (.getfield 122, 3) := dgX12_candle_34.2.2.1
theorem dX12_candle_39 : decode cX12_candle 39 = .ok (.aload_n 0, 1) := dgX12_candle_34.2.2.2.1
theorem dX12_candle_40 : decode cX12_candle 40 = .ok (.getfield 281, 3) := dgX12_candle_34.2.2.2.2.1
theorem dX12_candle_43 : decode cX12_candle 43 = .ok (.aload_n 0, 1) := dgX12_candle_34.2.2.2.2.2.1
theorem dX12_candle_44 : decode cX12_candle 44 = .ok (.getfield 278, 3) := dgX12_candle_34.2.2.2.2.2.2.1
theorem dX12_candle_47 : decode cX12_candle 47 = .ok (.iastore, 1) := dgX12_candle_34.2.2.2.2.2.2.2.1
theorem dX12_candle_48 : decode cX12_candle 48 = .ok (.aload_n 0, 1) := dgX12_candle_34.2.2.2.2.2.2.2.2.1
theorem dX12_candle_49 : decode cX12_candle 49 = .ok (.dup, 1) := dgX12_candle_34.2.2.2.2.2.2.2.2.2.1
theorem dX12_candle_50 : decode cX12_candle 50 = .ok (.getfield 281, 3) := dgX12_candle_34.2.2.2.2.2.2.2.2.2.2.1
theorem dX12_candle_53 : decode cX12_candle 53 = .ok (.iconst 1, 1) := dgX12_candle_34.2.2.2.2.2.2.2.2.2.2.2.1
theorem dgX12_candle_54 : (decode cX12_candle 54 = .ok (.iadd, 1)) ∧ (decode cX12_candle 55 = .ok (.putfield 281, 3)) ∧ (decode cX12_candle 58 = .ok (.aload_n 0, 1)) ∧ (decode cX12_candle 59 = .ok (.getfield 281, 3)) ∧ (decode cX12_candle 62 = .ok (.iconst 1, 1)) ∧ (decode cX12_candle 63 = .ok (.isub, 1)) ∧ (decode cX12_candle 64 = .ok (.ireturn, 1)) ∧ True := dkW [(54, .iadd, 1), (55, .putfield 281, 3), (58, .aload_n 0, 1), (59, .getfield 281, 3), (62, .iconst 1, 1), (63, .isub, 1), (64, .ireturn, 1)] 54 (by decide +kernel)
theorem dX12_candle_54 : decode cX12_candle 54 = .ok (.iadd, 1) := dgX12_candle_54.1
theorem dX12_candle_55 : decode cX12_candle 55 = .ok (.putfield 281, 3) := dgX12_candle_54.2.1
theorem dX12_candle_58 : decode cX12_candle 58 = .ok (.aload_n 0, 1) := dgX12_candle_54.2.2.1
theorem dX12_candle_59 : decode cX12_candle 59 = .ok (.getfield 281, 3) := dgX12_candle_54.2.2.2.1
theorem dX12_candle_62 : decode cX12_candle 62 = .ok (.iconst 1, 1) := dgX12_candle_54.2.2.2.2.1
theorem dX12_candle_63 : decode cX12_candle 63 = .ok (.isub, 1) := dgX12_candle_54.2.2.2.2.2.1
theorem dX12_candle_64 : decode cX12_candle 64 = .ok (.ireturn, 1) := dgX12_candle_54.2.2.2.2.2.2.1
abbrev rmX12_candle : Room := { frames := 1, cells := 0, slots := 0, locals := 22 }
noncomputable def fX12_candle (N : Nat) (h : Hs) (t : Nat) (p1 : Int32) : Option (Int32 × Hs) :=
  (fX12_in N h p1 1 300).bind fun r1 =>
  if r1.1 = 0 then (
  some ((-1), r1.2))
  else (oI 12 53 r1.2 (some t)).bind fun v2 =>
  if v2 = 60 then (
  some ((-3), r1.2))
  else (oR 12 54 r1.2 (some t)).bind fun o3 =>
  (oI 12 53 r1.2 (some t)).bind fun v4 =>
  (sA r1.2 o3 v4 p1).bind fun h5 =>
  (oR 12 55 h5 (some t)).bind fun o6 =>
  (oI 12 53 h5 (some t)).bind fun v7 =>
  (oI 12 52 h5 (some t)).bind fun v8 =>
  (sA h5 o6 v7 v8).bind fun h9 =>
  (oI 12 53 h9 (some t)).bind fun v10 =>
  (qI 12 53 h9 (some t) (v10 + 1)).bind fun h11 =>
  (oI 12 53 h11 (some t)).bind fun v12 =>
  some (v12 - 1, h11)
set_option maxHeartbeats 4000000 in
set_option maxRecDepth 20000 in
theorem kX12_candle (l : Launch) (G : Gl) {N : Nat} {h : Hs} {t : Nat} {p1 : Int32} {r : Int32 × Hs} (hf : fX12_candle N h t p1 = some r) : CT l G yX12_candle cX12_candle 2 (some .int) rmX12_candle [.inr (some t), .inl p1] h (some (.inl r.1)) r.2 := by
  refine mk_CT (by decide) (Nat.le_of_ble_eq_true rfl) ?_
  intro p e s m args below meth c C hret hin
  unfold fX12_candle at hf
  refine r_iload_n C dX12_candle_0 rfl ?_
  refine r_iconst (v := 1) C dX12_candle_1 (by decide) ?_
  refine r_sipush (v := 300) C dX12_candle_2 (by decide) ?_
  obtain ⟨r1, er1, hf⟩ := bS hf
  refine r_invS1 (As := [.inl p1, .inl 1, .inl 300]) C dX12_candle_5 mcX12_in wd_1185 wd_1186 ⟨by decide, by decide⟩ ⟨by decide, by decide⟩ rfl (Nat.le_of_ble_eq_true rfl) (kX12_in l G er1) ?_
  refine r_if_ne (tgt := 13) C dX12_candle_8 (by decide) (fun hc => ?_) (fun hc => ?_)
  · have hf := ifF hf hc
    refine r_aload_n C dX12_candle_13 rfl ?_
    obtain ⟨v2, ev2, hf⟩ := bS hf
    refine r_getI C dX12_candle_14 fl_X12_281 rfl ev2 ?_
    refine r_bipush (v := 60) C dX12_candle_17 (by decide) ?_
    refine r_icmp_ne (tgt := 25) C dX12_candle_19 (by decide) (fun hc => ?_) (fun hc => ?_)
    · have hf := ifF hf hc
      refine r_aload_n C dX12_candle_25 rfl ?_
      obtain ⟨o3, eo3, hf⟩ := bS hf
      refine r_getR C dX12_candle_26 fl_X12_119 rfl eo3 ?_
      refine r_aload_n C dX12_candle_29 rfl ?_
      obtain ⟨v4, ev4, hf⟩ := bS hf
      refine r_getI C dX12_candle_30 fl_X12_281 rfl ev4 ?_
      refine r_iload_n C dX12_candle_33 rfl ?_
      obtain ⟨h5, eh5, hf⟩ := bS hf
      refine r_iast C dX12_candle_34 eh5 ?_
      refine r_aload_n C dX12_candle_35 rfl ?_
      obtain ⟨o6, eo6, hf⟩ := bS hf
      refine r_getR C dX12_candle_36 fl_X12_122 rfl eo6 ?_
      refine r_aload_n C dX12_candle_39 rfl ?_
      obtain ⟨v7, ev7, hf⟩ := bS hf
      refine r_getI C dX12_candle_40 fl_X12_281 rfl ev7 ?_
      refine r_aload_n C dX12_candle_43 rfl ?_
      obtain ⟨v8, ev8, hf⟩ := bS hf
      refine r_getI C dX12_candle_44 fl_X12_278 rfl ev8 ?_
      obtain ⟨h9, eh9, hf⟩ := bS hf
      refine r_iast C dX12_candle_47 eh9 ?_
      refine r_aload_n C dX12_candle_48 rfl ?_
      refine r_dup C dX12_candle_49 ?_
      obtain ⟨v10, ev10, hf⟩ := bS hf
      refine r_getI C dX12_candle_50 fl_X12_281 rfl ev10 ?_
      refine r_iconst (v := 1) C dX12_candle_53 (by decide) ?_
      refine r_iadd C dX12_candle_54 ?_
      obtain ⟨h11, eh11, hf⟩ := bS hf
      refine r_putI C dX12_candle_55 fl_X12_281 (Or.inl fn_12_53) rfl eh11 ?_
      refine r_aload_n C dX12_candle_58 rfl ?_
      obtain ⟨v12, ev12, hf⟩ := bS hf
      refine r_getI C dX12_candle_59 fl_X12_281 rfl ev12 ?_
      refine r_iconst (v := 1) C dX12_candle_62 (by decide) ?_
      refine r_isub C dX12_candle_63 ?_
      exact r_iretF C dX12_candle_64 hret hf (by decide) (by decide)
    · have hf := ifT hf hc
      refine r_bipush (v := -3) C dX12_candle_22 (by decide) ?_
      exact r_iretF C dX12_candle_24 hret hf (by decide) (by decide)
  · have hf := ifT hf hc
    refine r_iconst (v := -1) C dX12_candle_11 (by decide) ?_
    exact r_iretF C dX12_candle_12 hret hf (by decide) (by decide)

theorem dgX12_minutes_0 : (decode cX12_minutes 0 = .ok (.iload_n 1, 1)) ∧ (decode cX12_minutes 1 = .ok (.iconst 1, 1)) ∧ (decode cX12_minutes 2 = .ok (.sipush 1000, 3)) ∧ (decode cX12_minutes 5 = .ok (.invokestatic 149, 3)) ∧ (decode cX12_minutes 8 = .ok (.ifCond .eq 15, 3)) ∧ (decode cX12_minutes 11 = .ok (.aload_n 0, 1)) ∧ (decode cX12_minutes 12 = .ok (.getfield 278, 3)) ∧ (decode cX12_minutes 15 = .ok (.iload_n 1, 1)) ∧ (decode cX12_minutes 16 = .ok (.iadd, 1)) ∧ (decode cX12_minutes 17 = .ok (.sipush 9999, 3)) ∧ (decode cX12_minutes 20 = .ok (.if_icmp .le 5, 3)) ∧ True := dkW [(0, .iload_n 1, 1), (1, .iconst 1, 1), (2, .sipush 1000, 3), (5, .invokestatic 149, 3), (8, .ifCond .eq 15, 3), (11, .aload_n 0, 1), (12, .getfield 278, 3), (15, .iload_n 1, 1), (16, .iadd, 1), (17, .sipush 9999, 3), (20, .if_icmp .le 5, 3)] 0 (by decide +kernel)
theorem dX12_minutes_0 : decode cX12_minutes 0 = .ok (.iload_n 1, 1) := dgX12_minutes_0.1
theorem dX12_minutes_1 : decode cX12_minutes 1 = .ok (.iconst 1, 1) := dgX12_minutes_0.2.1
theorem dX12_minutes_2 : decode cX12_minutes 2 = .ok (.sipush 1000, 3) := dgX12_minutes_0.2.2.1
theorem dX12_minutes_5 : decode cX12_minutes 5 = .ok (.invokestatic 149, 3) := dgX12_minutes_0.2.2.2.1
theorem dX12_minutes_8 : decode cX12_minutes 8 = .ok (.ifCond .eq 15, 3) := dgX12_minutes_0.2.2.2.2.1
theorem dX12_minutes_11 : decode cX12_minutes 11 = .ok (.aload_n 0, 1) := dgX12_minutes_0.2.2.2.2.2.1
theorem dX12_minutes_12 : decode cX12_minutes 12 = .ok (.getfield 278, 3) := dgX12_minutes_0.2.2.2.2.2.2.1
theorem dX12_minutes_15 : decode cX12_minutes 15 = .ok (.iload_n 1, 1) := dgX12_minutes_0.2.2.2.2.2.2.2.1
theorem dX12_minutes_16 : decode cX12_minutes 16 = .ok (.iadd, 1) := dgX12_minutes_0.2.2.2.2.2.2.2.2.1
theorem dX12_minutes_17 : decode cX12_minutes 17 = .ok (.sipush 9999, 3) := dgX12_minutes_0.2.2.2.2.2.2.2.2.2.1
theorem dX12_minutes_20 : decode cX12_minutes 20 = .ok (.if_icmp .le 5, 3) := dgX12_minutes_0.2.2.2.2.2.2.2.2.2.2.1
theorem dX12_minutes_23 : decode cX12_minutes 23 = .ok (.iconst (-1), 1) := by decide +kernel
theorem dgX12_minutes_24 : (decode cX12_minutes 24 = .ok (.ireturn, 1)) ∧ (decode cX12_minutes 25 = .ok (.aload_n 0, 1)) ∧ (decode cX12_minutes 26 = .ok (.dup, 1)) ∧ (decode cX12_minutes 27 = .ok (.getfield 278, 3)) ∧ (decode cX12_minutes 30 = .ok (.iload_n 1, 1)) ∧ (decode cX12_minutes 31 = .ok (.iadd, 1)) ∧ (decode cX12_minutes 32 = .ok (.putfield 278, 3)) ∧ (decode cX12_minutes 35 = .ok (.aload_n 0, 1)) ∧ (decode cX12_minutes 36 = .ok (.getfield 278, 3)) ∧ (decode cX12_minutes 39 = .ok (.ireturn, 1)) ∧ True := dkW [(24, .ireturn, 1), (25, .aload_n 0, 1), (26, .dup, 1), (27, .getfield 278, 3), (30, .iload_n 1, 1), (31, .iadd, 1), (32, .putfield 278, 3), (35, .aload_n 0, 1), (36, .getfield 278, 3), (39, .ireturn, 1)] 24 (by decide +kernel)
theorem dX12_minutes_24 : decode cX12_minutes 24 = .ok (.ireturn, 1) := dgX12_minutes_24.1
theorem dX12_minutes_25 : decode cX12_minutes 25 = .ok (.aload_n 0, 1) := dgX12_minutes_24.2.1
theorem dX12_minutes_26 : decode cX12_minutes 26 = .ok (.dup, 1) := dgX12_minutes_24.2.2.1
theorem dX12_minutes_27 : decode cX12_minutes 27 = .ok (.getfield 278, 3) := dgX12_minutes_24.2.2.2.1
theorem dX12_minutes_30 : decode cX12_minutes 30 = .ok (.iload_n 1, 1) := dgX12_minutes_24.2.2.2.2.1
theorem dX12_minutes_31 : decode cX12_minutes 31 = .ok (.iadd, 1) := dgX12_minutes_24.2.2.2.2.2.1
theorem dX12_minutes_32 : decode cX12_minutes 32 = .ok (.putfield 278, 3) := dgX12_minutes_24.2.2.2.2.2.2.1
theorem dX12_minutes_35 : decode cX12_minutes 35 = .ok (.aload_n 0, 1) := dgX12_minutes_24.2.2.2.2.2.2.2.1
theorem dX12_minutes_36 : decode cX12_minutes 36 = .ok (.getfield 278, 3) := dgX12_minutes_24.2.2.2.2.2.2.2.2.1
theorem dX12_minutes_39 : decode cX12_minutes 39 = .ok (.ireturn, 1) := dgX12_minutes_24.2.2.2.2.2.2.2.2.2.1
abbrev rmX12_minutes : Room := { frames := 1, cells := 0, slots := 0, locals := 22 }
noncomputable def fX12_minutes_b23 (N : Nat)  (t : Nat) (h : Hs)  : Option (Int32 × Hs) :=
  some ((-1), h)
set_option maxHeartbeats 4000000 in
set_option maxRecDepth 20000 in
theorem wX12_minutes_b23 {p : Program} {l : Launch} {e : Env} {s : State} {m : MethodId} {args : Array Value} {below : List Frame} {meth : Method} {c : Code} {G : Gl} {N : Nat} {h : Hs} {r : Int32 × Hs}  {t : Nat}  (C : Cx p s m args meth c cX12_minutes RX12 2 G) (hret : meth.sig.returnType = (some .int))  (hf : fX12_minutes_b23 N  t h  = some r) : V p l e rmX12_minutes s m args below meth c G 2 (MQ below (QcG G (some (.inl r.1)) r.2) args s rmX12_minutes.cells rmX12_minutes.slots (AG G)) h 0 0 23 [some (.inr (some t)), none] [] := by
  unfold fX12_minutes_b23 at hf
  refine r_iconst (v := -1) C dX12_minutes_23 (by decide) ?_
  exact r_iretF C dX12_minutes_24 hret hf (by decide) (by decide)
noncomputable def fX12_minutes (N : Nat) (h : Hs) (t : Nat) (p1 : Int32) : Option (Int32 × Hs) :=
  (fX12_in N h p1 1 1000).bind fun r1 =>
  if r1.1 = 0 then (
  fX12_minutes_b23 N t r1.2)
  else (oI 12 52 r1.2 (some t)).bind fun v2 =>
  if (v2 + p1) ≤ 9999 then (
  (oI 12 52 r1.2 (some t)).bind fun v3 =>
  (qI 12 52 r1.2 (some t) (v3 + p1)).bind fun h4 =>
  (oI 12 52 h4 (some t)).bind fun v5 =>
  some (v5, h4))
  else fX12_minutes_b23 N t r1.2
set_option maxHeartbeats 4000000 in
set_option maxRecDepth 20000 in
theorem kX12_minutes (l : Launch) (G : Gl) {N : Nat} {h : Hs} {t : Nat} {p1 : Int32} {r : Int32 × Hs} (hf : fX12_minutes N h t p1 = some r) : CT l G yX12_minutes cX12_minutes 2 (some .int) rmX12_minutes [.inr (some t), .inl p1] h (some (.inl r.1)) r.2 := by
  refine mk_CT (by decide) (Nat.le_of_ble_eq_true rfl) ?_
  intro p e s m args below meth c C hret hin
  unfold fX12_minutes at hf
  refine r_iload_n C dX12_minutes_0 rfl ?_
  refine r_iconst (v := 1) C dX12_minutes_1 (by decide) ?_
  refine r_sipush (v := 1000) C dX12_minutes_2 (by decide) ?_
  obtain ⟨r1, er1, hf⟩ := bS hf
  refine r_invS1 (As := [.inl p1, .inl 1, .inl 1000]) C dX12_minutes_5 mcX12_in wd_1185 wd_1186 ⟨by decide, by decide⟩ ⟨by decide, by decide⟩ rfl (Nat.le_of_ble_eq_true rfl) (kX12_in l G er1) ?_
  refine r_if_eq (tgt := 23) C dX12_minutes_8 (by decide) (fun hc => ?_) (fun hc => ?_)
  · have hf := ifT hf hc
    exact V.sub (wX12_minutes_b23 C hret hf) (LW_s rfl (LW_n (LW_e)))
  · have hf := ifF hf hc
    refine r_aload_n C dX12_minutes_11 rfl ?_
    obtain ⟨v2, ev2, hf⟩ := bS hf
    refine r_getI C dX12_minutes_12 fl_X12_278 rfl ev2 ?_
    refine r_iload_n C dX12_minutes_15 rfl ?_
    refine r_iadd C dX12_minutes_16 ?_
    refine r_sipush (v := 9999) C dX12_minutes_17 (by decide) ?_
    refine r_icmp_le (tgt := 25) C dX12_minutes_20 (by decide) (fun hc => ?_) (fun hc => ?_)
    · have hf := ifT hf hc
      refine r_aload_n C dX12_minutes_25 rfl ?_
      refine r_dup C dX12_minutes_26 ?_
      obtain ⟨v3, ev3, hf⟩ := bS hf
      refine r_getI C dX12_minutes_27 fl_X12_278 rfl ev3 ?_
      refine r_iload_n C dX12_minutes_30 rfl ?_
      refine r_iadd C dX12_minutes_31 ?_
      obtain ⟨h4, eh4, hf⟩ := bS hf
      refine r_putI C dX12_minutes_32 fl_X12_278 (Or.inl fn_12_52) rfl eh4 ?_
      refine r_aload_n C dX12_minutes_35 rfl ?_
      obtain ⟨v5, ev5, hf⟩ := bS hf
      refine r_getI C dX12_minutes_36 fl_X12_278 rfl ev5 ?_
      exact r_iretF C dX12_minutes_39 hret hf (by decide) (by decide)
    · have hf := ifF hf hc
      exact V.sub (wX12_minutes_b23 C hret hf) (LW_s rfl (LW_n (LW_e)))

theorem dgX12_trim_0 : (decode cX12_trim 0 = .ok (.iload_n 1, 1)) ∧ (decode cX12_trim 1 = .ok (.iconst 0, 1)) ∧ (decode cX12_trim 2 = .ok (.sipush 300, 3)) ∧ (decode cX12_trim 5 = .ok (.invokestatic 149, 3)) ∧ (decode cX12_trim 8 = .ok (.ifCond .ne 5, 3)) ∧ True := dkW [(0, .iload_n 1, 1), (1, .iconst 0, 1), (2, .sipush 300, 3), (5, .invokestatic 149, 3), (8, .ifCond .ne 5, 3)] 0 (by decide +kernel)
theorem dX12_trim_0 : decode cX12_trim 0 = .ok (.iload_n 1, 1) := dgX12_trim_0.1
theorem dX12_trim_1 : decode cX12_trim 1 = .ok (.iconst 0, 1) := dgX12_trim_0.2.1
theorem dX12_trim_2 : decode cX12_trim 2 = .ok (.sipush 300, 3) := dgX12_trim_0.2.2.1
theorem dX12_trim_5 : decode cX12_trim 5 = .ok (.invokestatic 149, 3) := dgX12_trim_0.2.2.2.1
theorem dX12_trim_8 : decode cX12_trim 8 = .ok (.ifCond .ne 5, 3) := dgX12_trim_0.2.2.2.2.1
theorem dX12_trim_11 : decode cX12_trim 11 = .ok (.iconst (-1), 1) := by decide +kernel
theorem dgX12_trim_12 : (decode cX12_trim 12 = .ok (.ireturn, 1)) ∧ (decode cX12_trim 13 = .ok (.iconst 0, 1)) ∧ (decode cX12_trim 14 = .ok (.istore_n 2, 1)) ∧ (decode cX12_trim 15 = .ok (.iconst 0, 1)) ∧ (decode cX12_trim 16 = .ok (.istore_n 3, 1)) ∧ (decode cX12_trim 17 = .ok (.iload_n 3, 1)) ∧ (decode cX12_trim 18 = .ok (.aload_n 0, 1)) ∧ (decode cX12_trim 19 = .ok (.getfield 281, 3)) ∧ (decode cX12_trim 22 = .ok (.if_icmp .ge 38, 3)) ∧ (decode cX12_trim 25 = .ok (.aload_n 0, 1)) ∧ (decode cX12_trim 26 = .ok (.iload_n 3, 1)) ∧ (decode cX12_trim 27 = .ok (.invokevirtual 284, 3)) ∧ True := dkW [(12, .ireturn, 1), (13, .iconst 0, 1), (14, .istore_n 2, 1), (15, .iconst 0, 1), (16, .istore_n 3, 1), (17, .iload_n 3, 1), (18, .aload_n 0, 1), (19, .getfield 281, 3), (22, .if_icmp .ge 38, 3), (25, .aload_n 0, 1), (26, .iload_n 3, 1), (27, .invokevirtual 284, 3)] 12 (by decide +kernel)
theorem dX12_trim_12 : decode cX12_trim 12 = .ok (.ireturn, 1) := dgX12_trim_12.1
theorem dX12_trim_13 : decode cX12_trim 13 = .ok (.iconst 0, 1) := dgX12_trim_12.2.1
theorem dX12_trim_14 : decode cX12_trim 14 = .ok (.istore_n 2, 1) := dgX12_trim_12.2.2.1
theorem dX12_trim_15 : decode cX12_trim 15 = .ok (.iconst 0, 1) := dgX12_trim_12.2.2.2.1
theorem dX12_trim_16 : decode cX12_trim 16 = .ok (.istore_n 3, 1) := dgX12_trim_12.2.2.2.2.1
theorem dX12_trim_17 : decode cX12_trim 17 = .ok (.iload_n 3, 1) := dgX12_trim_12.2.2.2.2.2.1
theorem dX12_trim_18 : decode cX12_trim 18 = .ok (.aload_n 0, 1) := dgX12_trim_12.2.2.2.2.2.2.1
theorem dX12_trim_19 : decode cX12_trim 19 = .ok (.getfield 281, 3) := dgX12_trim_12.2.2.2.2.2.2.2.1
theorem dX12_trim_22 : decode cX12_trim 22 = .ok (.if_icmp .ge 38, 3) := dgX12_trim_12.2.2.2.2.2.2.2.2.1
theorem dX12_trim_25 : decode cX12_trim 25 = .ok (.aload_n 0, 1) := dgX12_trim_12.2.2.2.2.2.2.2.2.2.1
theorem dX12_trim_26 : decode cX12_trim 26 = .ok (.iload_n 3, 1) := dgX12_trim_12.2.2.2.2.2.2.2.2.2.2.1
theorem dX12_trim_27 : decode cX12_trim 27 = .ok (.invokevirtual 284, 3) := dgX12_trim_12.2.2.2.2.2.2.2.2.2.2.2.1
theorem dgX12_trim_30 : (decode cX12_trim 30 = .ok (.iconst 1, 1)) ∧ (decode cX12_trim 31 = .ok (.iload_n 1, 1)) ∧ (decode cX12_trim 32 = .ok (.invokestatic 149, 3)) ∧ (decode cX12_trim 35 = .ok (.ifCond .ne 6, 3)) ∧ (decode cX12_trim 38 = .ok (.goto 16, 3)) ∧ (decode cX12_trim 41 = .ok (.aload_n 0, 1)) ∧ (decode cX12_trim 42 = .ok (.getfield 122, 3)) ∧ (decode cX12_trim 45 = .ok (.iload_n 3, 1)) ∧ (decode cX12_trim 46 = .ok (.aload_n 0, 1)) ∧ (decode cX12_trim 47 = .ok (.getfield 278, 3)) ∧ (decode cX12_trim 50 = .ok (.iastore, 1)) ∧ (decode cX12_trim 51 = .ok (.iinc 2 1, 3)) ∧ True := dkW [(30, .iconst 1, 1), (31, .iload_n 1, 1), (32, .invokestatic 149, 3), (35, .ifCond .ne 6, 3), (38, .goto 16, 3), (41, .aload_n 0, 1), (42, .getfield 122, 3), (45, .iload_n 3, 1), (46, .aload_n 0, 1), (47, .getfield 278, 3), (50, .iastore, 1), (51, .iinc 2 1, 3)] 30 (by decide +kernel)
theorem dX12_trim_30 : decode cX12_trim 30 = .ok (.iconst 1, 1) := dgX12_trim_30.1
theorem dX12_trim_31 : decode cX12_trim 31 = .ok (.iload_n 1, 1) := dgX12_trim_30.2.1
theorem dX12_trim_32 : decode cX12_trim 32 = .ok (.invokestatic 149, 3) := dgX12_trim_30.2.2.1
theorem dX12_trim_35 : decode cX12_trim 35 = .ok (.ifCond .ne 6, 3) := dgX12_trim_30.2.2.2.1
theorem dX12_trim_38 : decode cX12_trim 38 = .ok (.goto 16, 3) := dgX12_trim_30.2.2.2.2.1
theorem dX12_trim_41 : decode cX12_trim 41 = .ok (.aload_n 0, 1) := dgX12_trim_30.2.2.2.2.2.1
theorem dX12_trim_42 : decode cX12_trim 42 = .ok (.getfield 122, 3) := dgX12_trim_30.2.2.2.2.2.2.1
theorem dX12_trim_45 : decode cX12_trim 45 = .ok (.iload_n 3, 1) := dgX12_trim_30.2.2.2.2.2.2.2.1
theorem dX12_trim_46 : decode cX12_trim 46 = .ok (.aload_n 0, 1) := dgX12_trim_30.2.2.2.2.2.2.2.2.1
theorem dX12_trim_47 : decode cX12_trim 47 = .ok (.getfield 278, 3) := dgX12_trim_30.2.2.2.2.2.2.2.2.2.1
theorem dX12_trim_50 : decode cX12_trim 50 = .ok (.iastore, 1) := dgX12_trim_30.2.2.2.2.2.2.2.2.2.2.1
theorem dX12_trim_51 : decode cX12_trim 51 = .ok (.iinc 2 1, 3) := dgX12_trim_30.2.2.2.2.2.2.2.2.2.2.2.1
theorem dgX12_trim_54 : (decode cX12_trim 54 = .ok (.iinc 3 1, 3)) ∧ (decode cX12_trim 57 = .ok (.goto (-40), 3)) ∧ (decode cX12_trim 60 = .ok (.iload_n 2, 1)) ∧ (decode cX12_trim 61 = .ok (.ireturn, 1)) ∧ True := dkW [(54, .iinc 3 1, 3), (57, .goto (-40), 3), (60, .iload_n 2, 1), (61, .ireturn, 1)] 54 (by decide +kernel)
theorem dX12_trim_54 : decode cX12_trim 54 = .ok (.iinc 3 1, 3) := dgX12_trim_54.1
theorem dX12_trim_57 : decode cX12_trim 57 = .ok (.goto (-40), 3) := dgX12_trim_54.2.1
theorem dX12_trim_60 : decode cX12_trim 60 = .ok (.iload_n 2, 1) := dgX12_trim_54.2.2.1
theorem dX12_trim_61 : decode cX12_trim 61 = .ok (.ireturn, 1) := dgX12_trim_54.2.2.2.1
abbrev rmX12_trim : Room := { frames := 1, cells := 0, slots := 0, locals := 22 }
noncomputable def fX12_trim_b54 (N : Nat) (g17 : Hs → Int32 → Int32 → Int32 → Option (Int32 × Hs)) (t : Nat) (h : Hs) (x1 : Int32) (x2 : Int32) (x3 : Int32) : Option (Int32 × Hs) :=
  (some (x3 + 1)).bind fun y1 =>
  g17 h x1 x2 y1
set_option maxHeartbeats 4000000 in
set_option maxRecDepth 20000 in
theorem wX12_trim_b54 {p : Program} {l : Launch} {e : Env} {s : State} {m : MethodId} {args : Array Value} {below : List Frame} {meth : Method} {c : Code} {G : Gl} {N : Nat} {h : Hs} {r : Int32 × Hs} {g17 : Hs → Int32 → Int32 → Int32 → Option (Int32 × Hs)} {t : Nat} {x1 : Int32} {x2 : Int32} {x3 : Int32} (C : Cx p s m args meth c cX12_trim RX12 4 G) (hret : meth.sig.returnType = (some .int)) (hg17 : ∀ (h : Hs) (x1 : Int32) (x2 : Int32) (x3 : Int32), g17 h x1 x2 x3 = some r → V p l e rmX12_trim s m args below meth c G 4 (MQ below (QcG G (some (.inl r.1)) r.2) args s rmX12_trim.cells rmX12_trim.slots (AG G)) h 0 0 17 [some (.inr (some t)), some (.inl x1), some (.inl x2), some (.inl x3)] []) (hf : fX12_trim_b54 N g17 t h x1 x2 x3 = some r) : V p l e rmX12_trim s m args below meth c G 4 (MQ below (QcG G (some (.inl r.1)) r.2) args s rmX12_trim.cells rmX12_trim.slots (AG G)) h 0 0 54 [some (.inr (some t)), some (.inl x1), some (.inl x2), some (.inl x3)] [] := by
  unfold fX12_trim_b54 at hf
  obtain ⟨y1, ey1, hf⟩ := bS hf
  refine r_iincE (v := 1) C dX12_trim_54 rfl (by decide) (by decide) ey1 ?_
  refine r_goto (tgt := 17) C dX12_trim_57 (by decide) ?_
  exact V.sub (hg17 _ _ _ _ hf) (LW_s rfl (LW_s rfl (LW_s rfl (LW_s rfl (LW_e)))))
noncomputable def fX12_trim_b17_body (N : Nat)  (g17 : Hs → Int32 → Int32 → Int32 → Option (Int32 × Hs)) (t : Nat) (h : Hs) (x1 : Int32) (x2 : Int32) (x3 : Int32) : Option (Int32 × Hs) :=
  (oI 12 53 h (some t)).bind fun v1 =>
  if v1 ≤ x3 then (
  some (x2, h))
  else (rc 12 h (some t)).bind fun a3 =>
  (fX12_left N h a3 x3).bind fun r2 =>
  (fX12_in N r2.2 r2.1 1 x1).bind fun r4 =>
  if r4.1 = 0 then (
  fX12_trim_b54 N g17 t r4.2 x1 x2 x3)
  else (oR 12 55 r4.2 (some t)).bind fun o5 =>
  (oI 12 52 r4.2 (some t)).bind fun v6 =>
  (sA r4.2 o5 x3 v6).bind fun h7 =>
  (some (x2 + 1)).bind fun y8 =>
  fX12_trim_b54 N g17 t h7 x1 y8 x3
noncomputable def fX12_trim_b17 (N : Nat)  (t : Nat) (n : Nat) : Hs → Int32 → Int32 → Int32 → Option (Int32 × Hs) := lp (fun _ _ _ _ => none) (fun g h x1 x2 x3 => fX12_trim_b17_body N  g t h x1 x2 x3) n
set_option maxHeartbeats 4000000 in
set_option maxRecDepth 20000 in
theorem wX12_trim_b17_body {p : Program} {l : Launch} {e : Env} {s : State} {m : MethodId} {args : Array Value} {below : List Frame} {meth : Method} {c : Code} {G : Gl} {N : Nat} {h : Hs} {r : Int32 × Hs}  {g17 : Hs → Int32 → Int32 → Int32 → Option (Int32 × Hs)} {t : Nat} {x1 : Int32} {x2 : Int32} {x3 : Int32} (C : Cx p s m args meth c cX12_trim RX12 4 G) (hret : meth.sig.returnType = (some .int))  (hg17 : ∀ (h : Hs) (x1 : Int32) (x2 : Int32) (x3 : Int32), g17 h x1 x2 x3 = some r → V p l e rmX12_trim s m args below meth c G 4 (MQ below (QcG G (some (.inl r.1)) r.2) args s rmX12_trim.cells rmX12_trim.slots (AG G)) h 0 0 17 [some (.inr (some t)), some (.inl x1), some (.inl x2), some (.inl x3)] []) (hf : fX12_trim_b17_body N  g17 t h x1 x2 x3 = some r) : V p l e rmX12_trim s m args below meth c G 4 (MQ below (QcG G (some (.inl r.1)) r.2) args s rmX12_trim.cells rmX12_trim.slots (AG G)) h 0 0 17 [some (.inr (some t)), some (.inl x1), some (.inl x2), some (.inl x3)] [] := by
  unfold fX12_trim_b17_body at hf
  refine r_iload_n C dX12_trim_17 rfl ?_
  refine r_aload_n C dX12_trim_18 rfl ?_
  obtain ⟨v1, ev1, hf⟩ := bS hf
  refine r_getI C dX12_trim_19 fl_X12_281 rfl ev1 ?_
  refine r_icmp_ge (tgt := 60) C dX12_trim_22 (by decide) (fun hc => ?_) (fun hc => ?_)
  · have hf := ifT hf hc
    refine r_iload_n C dX12_trim_60 rfl ?_
    exact r_iretF C dX12_trim_61 hret hf (by decide) (by decide)
  · have hf := ifF hf hc
    refine r_aload_n C dX12_trim_25 rfl ?_
    refine r_iload_n C dX12_trim_26 rfl ?_
    obtain ⟨a3, ea3, hf⟩ := bS hf
    obtain ⟨r2, er2, hf⟩ := bS hf
    refine r_invV1 (As := [.inl x3]) (ci := 12) C dX12_trim_27 mcX12_left wd_1381 wd_1383 wp_52 rfl rfl (by decide) ⟨by decide, by decide⟩ ⟨by decide, by decide⟩ rfl (Nat.le_of_ble_eq_true rfl) ea3 (kX12_left l G er2) ?_
    refine r_iconst (v := 1) C dX12_trim_30 (by decide) ?_
    refine r_iload_n C dX12_trim_31 rfl ?_
    obtain ⟨r4, er4, hf⟩ := bS hf
    refine r_invS1 (As := [.inl r2.1, .inl 1, .inl x1]) C dX12_trim_32 mcX12_in wd_1185 wd_1186 ⟨by decide, by decide⟩ ⟨by decide, by decide⟩ rfl (Nat.le_of_ble_eq_true rfl) (kX12_in l G er4) ?_
    refine r_if_ne (tgt := 41) C dX12_trim_35 (by decide) (fun hc => ?_) (fun hc => ?_)
    · have hf := ifF hf hc
      refine r_aload_n C dX12_trim_41 rfl ?_
      obtain ⟨o5, eo5, hf⟩ := bS hf
      refine r_getR C dX12_trim_42 fl_X12_122 rfl eo5 ?_
      refine r_iload_n C dX12_trim_45 rfl ?_
      refine r_aload_n C dX12_trim_46 rfl ?_
      obtain ⟨v6, ev6, hf⟩ := bS hf
      refine r_getI C dX12_trim_47 fl_X12_278 rfl ev6 ?_
      obtain ⟨h7, eh7, hf⟩ := bS hf
      refine r_iast C dX12_trim_50 eh7 ?_
      obtain ⟨y8, ey8, hf⟩ := bS hf
      refine r_iincE (v := 1) C dX12_trim_51 rfl (by decide) (by decide) ey8 ?_
      exact V.sub (wX12_trim_b54 C hret hg17 hf) (LW_s rfl (LW_s rfl (LW_s rfl (LW_s rfl (LW_e)))))
    · have hf := ifT hf hc
      refine r_goto (tgt := 54) C dX12_trim_38 (by decide) ?_
      exact V.sub (wX12_trim_b54 C hret hg17 hf) (LW_s rfl (LW_s rfl (LW_s rfl (LW_s rfl (LW_e)))))
theorem wX12_trim_b17 {p : Program} {l : Launch} {e : Env} {s : State} {m : MethodId} {args : Array Value} {below : List Frame} {meth : Method} {c : Code} {G : Gl} {N : Nat} {r : Int32 × Hs}  {t : Nat} (C : Cx p s m args meth c cX12_trim RX12 4 G) (hret : meth.sig.returnType = (some .int))  : ∀ (n : Nat) (h : Hs) (x1 : Int32) (x2 : Int32) (x3 : Int32), fX12_trim_b17 N  t n h x1 x2 x3 = some r → V p l e rmX12_trim s m args below meth c G 4 (MQ below (QcG G (some (.inl r.1)) r.2) args s rmX12_trim.cells rmX12_trim.slots (AG G)) h 0 0 17 [some (.inr (some t)), some (.inl x1), some (.inl x2), some (.inl x3)] [] := by
  intro n
  induction n with
  | zero => intro h x1 x2 x3 hf; exact absurd (show (none : Option (Int32 × Hs)) = some r from hf) (fun q => by cases q)
  | succ n ih => intro h x1 x2 x3 hf; exact wX12_trim_b17_body C hret  ih (show fX12_trim_b17_body N  (fX12_trim_b17 N  t n) t h x1 x2 x3 = some r from hf)
noncomputable def fX12_trim (N : Nat) (h : Hs) (t : Nat) (p1 : Int32) : Option (Int32 × Hs) :=
  (fX12_in N h p1 0 300).bind fun r1 =>
  if r1.1 = 0 then (
  some ((-1), r1.2))
  else fX12_trim_b17 N t N r1.2 p1 0 0
set_option maxHeartbeats 4000000 in
set_option maxRecDepth 20000 in
theorem kX12_trim (l : Launch) (G : Gl) {N : Nat} {h : Hs} {t : Nat} {p1 : Int32} {r : Int32 × Hs} (hf : fX12_trim N h t p1 = some r) : CT l G yX12_trim cX12_trim 4 (some .int) rmX12_trim [.inr (some t), .inl p1] h (some (.inl r.1)) r.2 := by
  refine mk_CT (by decide) (Nat.le_of_ble_eq_true rfl) ?_
  intro p e s m args below meth c C hret hin
  unfold fX12_trim at hf
  refine r_iload_n C dX12_trim_0 rfl ?_
  refine r_iconst (v := 0) C dX12_trim_1 (by decide) ?_
  refine r_sipush (v := 300) C dX12_trim_2 (by decide) ?_
  obtain ⟨r1, er1, hf⟩ := bS hf
  refine r_invS1 (As := [.inl p1, .inl 0, .inl 300]) C dX12_trim_5 mcX12_in wd_1185 wd_1186 ⟨by decide, by decide⟩ ⟨by decide, by decide⟩ rfl (Nat.le_of_ble_eq_true rfl) (kX12_in l G er1) ?_
  refine r_if_ne (tgt := 13) C dX12_trim_8 (by decide) (fun hc => ?_) (fun hc => ?_)
  · have hf := ifF hf hc
    refine r_iconst (v := 0) C dX12_trim_13 (by decide) ?_
    refine r_istore_n C dX12_trim_14 (by decide) ?_
    refine r_iconst (v := 0) C dX12_trim_15 (by decide) ?_
    refine r_istore_n C dX12_trim_16 (by decide) ?_
    exact V.sub (wX12_trim_b17 C hret N _ _ _ _ hf) (LW_s rfl (LW_s rfl (LW_s rfl (LW_s rfl (LW_e)))))
  · have hf := ifT hf hc
    refine r_iconst (v := -1) C dX12_trim_11 (by decide) ?_
    exact r_iretF C dX12_trim_12 hret hf (by decide) (by decide)

theorem dgX12_light_0 : (decode cX12_light 0 = .ok (.iconst 0, 1)) ∧ (decode cX12_light 1 = .ok (.istore_n 2, 1)) ∧ True := dkW [(0, .iconst 0, 1), (1, .istore_n 2, 1)] 0 (by decide +kernel)
theorem dX12_light_0 : decode cX12_light 0 = .ok (.iconst 0, 1) := dgX12_light_0.1
theorem dX12_light_1 : decode cX12_light 1 = .ok (.istore_n 2, 1) := dgX12_light_0.2.1
theorem dX12_light_2 : decode cX12_light 2 = .ok (.iconst (-1), 1) := by decide +kernel
theorem dgX12_light_3 : (decode cX12_light 3 = .ok (.istore_n 3, 1)) ∧ (decode cX12_light 4 = .ok (.iconst 0, 1)) ∧ (decode cX12_light 5 = .ok (.istore 4, 2)) ∧ (decode cX12_light 7 = .ok (.iload 4, 2)) ∧ (decode cX12_light 9 = .ok (.aload_n 0, 1)) ∧ (decode cX12_light 10 = .ok (.getfield 281, 3)) ∧ (decode cX12_light 13 = .ok (.if_icmp .ge 49, 3)) ∧ (decode cX12_light 16 = .ok (.aload_n 0, 1)) ∧ (decode cX12_light 17 = .ok (.iload 4, 2)) ∧ (decode cX12_light 19 = .ok (.invokevirtual 284, 3)) ∧ (decode cX12_light 22 = .ok (.ifCond .gt 9, 3)) ∧ (decode cX12_light 25 = .ok (.iinc 2 1, 3)) ∧ True := dkW [(3, .istore_n 3, 1), (4, .iconst 0, 1), (5, .istore 4, 2), (7, .iload 4, 2), (9, .aload_n 0, 1), (10, .getfield 281, 3), (13, .if_icmp .ge 49, 3), (16, .aload_n 0, 1), (17, .iload 4, 2), (19, .invokevirtual 284, 3), (22, .ifCond .gt 9, 3), (25, .iinc 2 1, 3)] 3 (by decide +kernel)
theorem dX12_light_3 : decode cX12_light 3 = .ok (.istore_n 3, 1) := dgX12_light_3.1
theorem dX12_light_4 : decode cX12_light 4 = .ok (.iconst 0, 1) := dgX12_light_3.2.1
theorem dX12_light_5 : decode cX12_light 5 = .ok (.istore 4, 2) := dgX12_light_3.2.2.1
theorem dX12_light_7 : decode cX12_light 7 = .ok (.iload 4, 2) := dgX12_light_3.2.2.2.1
theorem dX12_light_9 : decode cX12_light 9 = .ok (.aload_n 0, 1) := dgX12_light_3.2.2.2.2.1
theorem dX12_light_10 : decode cX12_light 10 = .ok (.getfield 281, 3) := dgX12_light_3.2.2.2.2.2.1
theorem dX12_light_13 : decode cX12_light 13 = .ok (.if_icmp .ge 49, 3) := dgX12_light_3.2.2.2.2.2.2.1
theorem dX12_light_16 : decode cX12_light 16 = .ok (.aload_n 0, 1) := dgX12_light_3.2.2.2.2.2.2.2.1
theorem dX12_light_17 : decode cX12_light 17 = .ok (.iload 4, 2) := dgX12_light_3.2.2.2.2.2.2.2.2.1
theorem dX12_light_19 : decode cX12_light 19 = .ok (.invokevirtual 284, 3) := dgX12_light_3.2.2.2.2.2.2.2.2.2.1
theorem dX12_light_22 : decode cX12_light 22 = .ok (.ifCond .gt 9, 3) := dgX12_light_3.2.2.2.2.2.2.2.2.2.2.1
theorem dX12_light_25 : decode cX12_light 25 = .ok (.iinc 2 1, 3) := dgX12_light_3.2.2.2.2.2.2.2.2.2.2.2.1
theorem dgX12_light_28 : (decode cX12_light 28 = .ok (.goto 28, 3)) ∧ (decode cX12_light 31 = .ok (.iload_n 3, 1)) ∧ (decode cX12_light 32 = .ok (.ifCond .lt 13, 3)) ∧ (decode cX12_light 35 = .ok (.aload_n 0, 1)) ∧ (decode cX12_light 36 = .ok (.iload 4, 2)) ∧ (decode cX12_light 38 = .ok (.invokevirtual 284, 3)) ∧ (decode cX12_light 41 = .ok (.iload_n 3, 1)) ∧ (decode cX12_light 42 = .ok (.if_icmp .ge 12, 3)) ∧ (decode cX12_light 45 = .ok (.aload_n 0, 1)) ∧ (decode cX12_light 46 = .ok (.iload 4, 2)) ∧ (decode cX12_light 48 = .ok (.invokevirtual 284, 3)) ∧ (decode cX12_light 51 = .ok (.goto 4, 3)) ∧ True := dkW [(28, .goto 28, 3), (31, .iload_n 3, 1), (32, .ifCond .lt 13, 3), (35, .aload_n 0, 1), (36, .iload 4, 2), (38, .invokevirtual 284, 3), (41, .iload_n 3, 1), (42, .if_icmp .ge 12, 3), (45, .aload_n 0, 1), (46, .iload 4, 2), (48, .invokevirtual 284, 3), (51, .goto 4, 3)] 28 (by decide +kernel)
theorem dX12_light_28 : decode cX12_light 28 = .ok (.goto 28, 3) := dgX12_light_28.1
theorem dX12_light_31 : decode cX12_light 31 = .ok (.iload_n 3, 1) := dgX12_light_28.2.1
theorem dX12_light_32 : decode cX12_light 32 = .ok (.ifCond .lt 13, 3) := dgX12_light_28.2.2.1
theorem dX12_light_35 : decode cX12_light 35 = .ok (.aload_n 0, 1) := dgX12_light_28.2.2.2.1
theorem dX12_light_36 : decode cX12_light 36 = .ok (.iload 4, 2) := dgX12_light_28.2.2.2.2.1
theorem dX12_light_38 : decode cX12_light 38 = .ok (.invokevirtual 284, 3) := dgX12_light_28.2.2.2.2.2.1
theorem dX12_light_41 : decode cX12_light 41 = .ok (.iload_n 3, 1) := dgX12_light_28.2.2.2.2.2.2.1
theorem dX12_light_42 : decode cX12_light 42 = .ok (.if_icmp .ge 12, 3) := dgX12_light_28.2.2.2.2.2.2.2.1
theorem dX12_light_45 : decode cX12_light 45 = .ok (.aload_n 0, 1) := dgX12_light_28.2.2.2.2.2.2.2.2.1
theorem dX12_light_46 : decode cX12_light 46 = .ok (.iload 4, 2) := dgX12_light_28.2.2.2.2.2.2.2.2.2.1
theorem dX12_light_48 : decode cX12_light 48 = .ok (.invokevirtual 284, 3) := dgX12_light_28.2.2.2.2.2.2.2.2.2.2.1
theorem dX12_light_51 : decode cX12_light 51 = .ok (.goto 4, 3) := dgX12_light_28.2.2.2.2.2.2.2.2.2.2.2.1
theorem dgX12_light_54 : (decode cX12_light 54 = .ok (.iload_n 3, 1)) ∧ (decode cX12_light 55 = .ok (.istore_n 3, 1)) ∧ (decode cX12_light 56 = .ok (.iinc 4 1, 3)) ∧ (decode cX12_light 59 = .ok (.goto (-52), 3)) ∧ (decode cX12_light 62 = .ok (.iload_n 1, 1)) ∧ True := dkW [(54, .iload_n 3, 1), (55, .istore_n 3, 1), (56, .iinc 4 1, 3), (59, .goto (-52), 3), (62, .iload_n 1, 1)] 54 (by decide +kernel)
theorem dX12_light_54 : decode cX12_light 54 = .ok (.iload_n 3, 1) := dgX12_light_54.1
theorem dX12_light_55 : decode cX12_light 55 = .ok (.istore_n 3, 1) := dgX12_light_54.2.1
theorem dX12_light_56 : decode cX12_light 56 = .ok (.iinc 4 1, 3) := dgX12_light_54.2.2.1
theorem dX12_light_59 : decode cX12_light 59 = .ok (.goto (-52), 3) := dgX12_light_54.2.2.2.1
theorem dX12_light_62 : decode cX12_light 62 = .ok (.iload_n 1, 1) := dgX12_light_54.2.2.2.2.1
theorem dX12_light_63 : decode cX12_light 63 = .ok (.tableswitch 36 0 2 #[25, 27, 34], 25) := by decide +kernel
theorem dgX12_light_88 : (decode cX12_light 88 = .ok (.iload_n 2, 1)) ∧ (decode cX12_light 89 = .ok (.ireturn, 1)) ∧ (decode cX12_light 90 = .ok (.aload_n 0, 1)) ∧ (decode cX12_light 91 = .ok (.getfield 281, 3)) ∧ (decode cX12_light 94 = .ok (.iload_n 2, 1)) ∧ (decode cX12_light 95 = .ok (.isub, 1)) ∧ (decode cX12_light 96 = .ok (.ireturn, 1)) ∧ (decode cX12_light 97 = .ok (.iload_n 3, 1)) ∧ (decode cX12_light 98 = .ok (.ireturn, 1)) ∧ True := dkW [(88, .iload_n 2, 1), (89, .ireturn, 1), (90, .aload_n 0, 1), (91, .getfield 281, 3), (94, .iload_n 2, 1), (95, .isub, 1), (96, .ireturn, 1), (97, .iload_n 3, 1), (98, .ireturn, 1)] 88 (by decide +kernel)
theorem dX12_light_88 : decode cX12_light 88 = .ok (.iload_n 2, 1) := dgX12_light_88.1
theorem dX12_light_89 : decode cX12_light 89 = .ok (.ireturn, 1) := dgX12_light_88.2.1
theorem dX12_light_90 : decode cX12_light 90 = .ok (.aload_n 0, 1) := dgX12_light_88.2.2.1
theorem dX12_light_91 : decode cX12_light 91 = .ok (.getfield 281, 3) := dgX12_light_88.2.2.2.1
theorem dX12_light_94 : decode cX12_light 94 = .ok (.iload_n 2, 1) := dgX12_light_88.2.2.2.2.1
theorem dX12_light_95 : decode cX12_light 95 = .ok (.isub, 1) := dgX12_light_88.2.2.2.2.2.1
theorem dX12_light_96 : decode cX12_light 96 = .ok (.ireturn, 1) := dgX12_light_88.2.2.2.2.2.2.1
theorem dX12_light_97 : decode cX12_light 97 = .ok (.iload_n 3, 1) := dgX12_light_88.2.2.2.2.2.2.2.1
theorem dX12_light_98 : decode cX12_light 98 = .ok (.ireturn, 1) := dgX12_light_88.2.2.2.2.2.2.2.2.1
theorem dX12_light_99 : decode cX12_light 99 = .ok (.iconst (-1), 1) := by decide +kernel
theorem dgX12_light_100 : (decode cX12_light 100 = .ok (.ireturn, 1)) ∧ True := dkW [(100, .ireturn, 1)] 100 (by decide +kernel)
theorem dX12_light_100 : decode cX12_light 100 = .ok (.ireturn, 1) := dgX12_light_100.1
abbrev rmX12_light : Room := { frames := 1, cells := 0, slots := 0, locals := 21 }
noncomputable def fX12_light_b56 (N : Nat) (g7 : Hs → Int32 → Int32 → Int32 → Int32 → Option (Int32 × Hs)) (t : Nat) (h : Hs) (x1 : Int32) (x2 : Int32) (x3 : Int32) (x4 : Int32) : Option (Int32 × Hs) :=
  (some (x4 + 1)).bind fun y1 =>
  g7 h x1 x2 x3 y1
set_option maxHeartbeats 4000000 in
set_option maxRecDepth 20000 in
theorem wX12_light_b56 {p : Program} {l : Launch} {e : Env} {s : State} {m : MethodId} {args : Array Value} {below : List Frame} {meth : Method} {c : Code} {G : Gl} {N : Nat} {h : Hs} {r : Int32 × Hs} {g7 : Hs → Int32 → Int32 → Int32 → Int32 → Option (Int32 × Hs)} {t : Nat} {x1 : Int32} {x2 : Int32} {x3 : Int32} {x4 : Int32} (C : Cx p s m args meth c cX12_light RX12 5 G) (hret : meth.sig.returnType = (some .int)) (hg7 : ∀ (h : Hs) (x1 : Int32) (x2 : Int32) (x3 : Int32) (x4 : Int32), g7 h x1 x2 x3 x4 = some r → V p l e rmX12_light s m args below meth c G 5 (MQ below (QcG G (some (.inl r.1)) r.2) args s rmX12_light.cells rmX12_light.slots (AG G)) h 0 0 7 [some (.inr (some t)), some (.inl x1), some (.inl x2), some (.inl x3), some (.inl x4)] []) (hf : fX12_light_b56 N g7 t h x1 x2 x3 x4 = some r) : V p l e rmX12_light s m args below meth c G 5 (MQ below (QcG G (some (.inl r.1)) r.2) args s rmX12_light.cells rmX12_light.slots (AG G)) h 0 0 56 [some (.inr (some t)), some (.inl x1), some (.inl x2), some (.inl x3), some (.inl x4)] [] := by
  unfold fX12_light_b56 at hf
  obtain ⟨y1, ey1, hf⟩ := bS hf
  refine r_iincE (v := 1) C dX12_light_56 rfl (by decide) (by decide) ey1 ?_
  refine r_goto (tgt := 7) C dX12_light_59 (by decide) ?_
  exact V.sub (hg7 _ _ _ _ _ hf) (LW_s rfl (LW_s rfl (LW_s rfl (LW_s rfl (LW_s rfl (LW_e))))))
noncomputable def fX12_light_b55 (N : Nat) (g7 : Hs → Int32 → Int32 → Int32 → Int32 → Option (Int32 × Hs)) (t : Nat) (h : Hs) (x1 : Int32) (x2 : Int32) (x4 : Int32) (u0 : Int32) : Option (Int32 × Hs) :=
  fX12_light_b56 N g7 t h x1 x2 u0 x4
set_option maxHeartbeats 4000000 in
set_option maxRecDepth 20000 in
theorem wX12_light_b55 {p : Program} {l : Launch} {e : Env} {s : State} {m : MethodId} {args : Array Value} {below : List Frame} {meth : Method} {c : Code} {G : Gl} {N : Nat} {h : Hs} {r : Int32 × Hs} {g7 : Hs → Int32 → Int32 → Int32 → Int32 → Option (Int32 × Hs)} {t : Nat} {x1 : Int32} {x2 : Int32} {x4 : Int32} {u0 : Int32} (C : Cx p s m args meth c cX12_light RX12 5 G) (hret : meth.sig.returnType = (some .int)) (hg7 : ∀ (h : Hs) (x1 : Int32) (x2 : Int32) (x3 : Int32) (x4 : Int32), g7 h x1 x2 x3 x4 = some r → V p l e rmX12_light s m args below meth c G 5 (MQ below (QcG G (some (.inl r.1)) r.2) args s rmX12_light.cells rmX12_light.slots (AG G)) h 0 0 7 [some (.inr (some t)), some (.inl x1), some (.inl x2), some (.inl x3), some (.inl x4)] []) (hf : fX12_light_b55 N g7 t h x1 x2 x4 u0 = some r) : V p l e rmX12_light s m args below meth c G 5 (MQ below (QcG G (some (.inl r.1)) r.2) args s rmX12_light.cells rmX12_light.slots (AG G)) h 0 0 55 [some (.inr (some t)), some (.inl x1), some (.inl x2), none, some (.inl x4)] [.inl u0] := by
  unfold fX12_light_b55 at hf
  refine r_istore_n C dX12_light_55 (by decide) ?_
  exact V.sub (wX12_light_b56 C hret hg7 hf) (LW_s rfl (LW_s rfl (LW_s rfl (LW_s rfl (LW_s rfl (LW_e))))))
noncomputable def fX12_light_b45 (N : Nat) (g7 : Hs → Int32 → Int32 → Int32 → Int32 → Option (Int32 × Hs)) (t : Nat) (h : Hs) (x1 : Int32) (x2 : Int32) (x4 : Int32) : Option (Int32 × Hs) :=
  (rc 12 h (some t)).bind fun a2 =>
  (fX12_left N h a2 x4).bind fun r1 =>
  fX12_light_b55 N g7 t r1.2 x1 x2 x4 r1.1
set_option maxHeartbeats 4000000 in
set_option maxRecDepth 20000 in
theorem wX12_light_b45 {p : Program} {l : Launch} {e : Env} {s : State} {m : MethodId} {args : Array Value} {below : List Frame} {meth : Method} {c : Code} {G : Gl} {N : Nat} {h : Hs} {r : Int32 × Hs} {g7 : Hs → Int32 → Int32 → Int32 → Int32 → Option (Int32 × Hs)} {t : Nat} {x1 : Int32} {x2 : Int32} {x4 : Int32} (C : Cx p s m args meth c cX12_light RX12 5 G) (hret : meth.sig.returnType = (some .int)) (hg7 : ∀ (h : Hs) (x1 : Int32) (x2 : Int32) (x3 : Int32) (x4 : Int32), g7 h x1 x2 x3 x4 = some r → V p l e rmX12_light s m args below meth c G 5 (MQ below (QcG G (some (.inl r.1)) r.2) args s rmX12_light.cells rmX12_light.slots (AG G)) h 0 0 7 [some (.inr (some t)), some (.inl x1), some (.inl x2), some (.inl x3), some (.inl x4)] []) (hf : fX12_light_b45 N g7 t h x1 x2 x4 = some r) : V p l e rmX12_light s m args below meth c G 5 (MQ below (QcG G (some (.inl r.1)) r.2) args s rmX12_light.cells rmX12_light.slots (AG G)) h 0 0 45 [some (.inr (some t)), some (.inl x1), some (.inl x2), none, some (.inl x4)] [] := by
  unfold fX12_light_b45 at hf
  refine r_aload_n C dX12_light_45 rfl ?_
  refine r_iload C dX12_light_46 rfl ?_
  obtain ⟨a2, ea2, hf⟩ := bS hf
  obtain ⟨r1, er1, hf⟩ := bS hf
  refine r_invV1 (As := [.inl x4]) (ci := 12) C dX12_light_48 mcX12_left wd_1381 wd_1383 wp_52 rfl rfl (by decide) ⟨by decide, by decide⟩ ⟨by decide, by decide⟩ rfl (Nat.le_of_ble_eq_true rfl) ea2 (kX12_left l G er1) ?_
  refine r_goto (tgt := 55) C dX12_light_51 (by decide) ?_
  exact V.sub (wX12_light_b55 C hret hg7 hf) (LW_s rfl (LW_s rfl (LW_s rfl (LW_n (LW_s rfl (LW_e))))))
noncomputable def fX12_light_b7_body (N : Nat)  (g7 : Hs → Int32 → Int32 → Int32 → Int32 → Option (Int32 × Hs)) (t : Nat) (h : Hs) (x1 : Int32) (x2 : Int32) (x3 : Int32) (x4 : Int32) : Option (Int32 × Hs) :=
  (oI 12 53 h (some t)).bind fun v1 =>
  if v1 ≤ x4 then (
  if x1 = 0 then (
  some (x2, h))
  else if x1 = 1 then (
  (oI 12 53 h (some t)).bind fun v2 =>
  some (v2 - x2, h))
  else if x1 = 2 then (
  some (x3, h))
  else some ((-1), h))
  else (rc 12 h (some t)).bind fun a4 =>
  (fX12_left N h a4 x4).bind fun r3 =>
  if 0 < r3.1 then (
  if x3 < 0 then (
  fX12_light_b45 N g7 t r3.2 x1 x2 x4)
  else (rc 12 r3.2 (some t)).bind fun a6 =>
  (fX12_left N r3.2 a6 x4).bind fun r5 =>
  if x3 ≤ r5.1 then (
  fX12_light_b55 N g7 t r5.2 x1 x2 x4 x3)
  else fX12_light_b45 N g7 t r5.2 x1 x2 x4)
  else (some (x2 + 1)).bind fun y7 =>
  fX12_light_b56 N g7 t r3.2 x1 y7 x3 x4
noncomputable def fX12_light_b7 (N : Nat)  (t : Nat) (n : Nat) : Hs → Int32 → Int32 → Int32 → Int32 → Option (Int32 × Hs) := lp (fun _ _ _ _ _ => none) (fun g h x1 x2 x3 x4 => fX12_light_b7_body N  g t h x1 x2 x3 x4) n
set_option maxHeartbeats 4000000 in
set_option maxRecDepth 20000 in
theorem wX12_light_b7_body {p : Program} {l : Launch} {e : Env} {s : State} {m : MethodId} {args : Array Value} {below : List Frame} {meth : Method} {c : Code} {G : Gl} {N : Nat} {h : Hs} {r : Int32 × Hs}  {g7 : Hs → Int32 → Int32 → Int32 → Int32 → Option (Int32 × Hs)} {t : Nat} {x1 : Int32} {x2 : Int32} {x3 : Int32} {x4 : Int32} (C : Cx p s m args meth c cX12_light RX12 5 G) (hret : meth.sig.returnType = (some .int))  (hg7 : ∀ (h : Hs) (x1 : Int32) (x2 : Int32) (x3 : Int32) (x4 : Int32), g7 h x1 x2 x3 x4 = some r → V p l e rmX12_light s m args below meth c G 5 (MQ below (QcG G (some (.inl r.1)) r.2) args s rmX12_light.cells rmX12_light.slots (AG G)) h 0 0 7 [some (.inr (some t)), some (.inl x1), some (.inl x2), some (.inl x3), some (.inl x4)] []) (hf : fX12_light_b7_body N  g7 t h x1 x2 x3 x4 = some r) : V p l e rmX12_light s m args below meth c G 5 (MQ below (QcG G (some (.inl r.1)) r.2) args s rmX12_light.cells rmX12_light.slots (AG G)) h 0 0 7 [some (.inr (some t)), some (.inl x1), some (.inl x2), some (.inl x3), some (.inl x4)] [] := by
  unfold fX12_light_b7_body at hf
  refine r_iload C dX12_light_7 rfl ?_
  refine r_aload_n C dX12_light_9 rfl ?_
  obtain ⟨v1, ev1, hf⟩ := bS hf
  refine r_getI C dX12_light_10 fl_X12_281 rfl ev1 ?_
  refine r_icmp_ge (tgt := 62) C dX12_light_13 (by decide) (fun hc => ?_) (fun hc => ?_)
  · have hf := ifT hf hc
    refine r_iload_n C dX12_light_62 rfl ?_
    by_cases k0 : x1 = 0
    · have hf := ifT hf k0
      refine r_tabIn (tgt := 88) (off := 25) C dX12_light_63 (by rw [k0]; decide) (by rw [k0]; decide) (by rw [k0]; rfl) (by decide) ?_
      refine r_iload_n C dX12_light_88 rfl ?_
      exact r_iretF C dX12_light_89 hret hf (by decide) (by decide)
    · have hf := ifF hf k0
      by_cases k1 : x1 = 1
      · have hf := ifT hf k1
        refine r_tabIn (tgt := 90) (off := 27) C dX12_light_63 (by rw [k1]; decide) (by rw [k1]; decide) (by rw [k1]; rfl) (by decide) ?_
        refine r_aload_n C dX12_light_90 rfl ?_
        obtain ⟨v2, ev2, hf⟩ := bS hf
        refine r_getI C dX12_light_91 fl_X12_281 rfl ev2 ?_
        refine r_iload_n C dX12_light_94 rfl ?_
        refine r_isub C dX12_light_95 ?_
        exact r_iretF C dX12_light_96 hret hf (by decide) (by decide)
      · have hf := ifF hf k1
        by_cases k2 : x1 = 2
        · have hf := ifT hf k2
          refine r_tabIn (tgt := 97) (off := 34) C dX12_light_63 (by rw [k2]; decide) (by rw [k2]; decide) (by rw [k2]; rfl) (by decide) ?_
          refine r_iload_n C dX12_light_97 rfl ?_
          exact r_iretF C dX12_light_98 hret hf (by decide) (by decide)
        · have hf := ifF hf k2
          refine r_tabOut (tgt := 99) C dX12_light_63 (sw_out (lo := 0) (hi := 2) [0, 1, 2] (by decide) (List.forall_mem_cons.mpr ⟨k0, List.forall_mem_cons.mpr ⟨k1, List.forall_mem_cons.mpr ⟨k2, fun _ q => absurd q List.not_mem_nil⟩⟩⟩)) (by decide) ?_
          refine r_iconst (v := -1) C dX12_light_99 (by decide) ?_
          exact r_iretF C dX12_light_100 hret hf (by decide) (by decide)
  · have hf := ifF hf hc
    refine r_aload_n C dX12_light_16 rfl ?_
    refine r_iload C dX12_light_17 rfl ?_
    obtain ⟨a4, ea4, hf⟩ := bS hf
    obtain ⟨r3, er3, hf⟩ := bS hf
    refine r_invV1 (As := [.inl x4]) (ci := 12) C dX12_light_19 mcX12_left wd_1381 wd_1383 wp_52 rfl rfl (by decide) ⟨by decide, by decide⟩ ⟨by decide, by decide⟩ rfl (Nat.le_of_ble_eq_true rfl) ea4 (kX12_left l G er3) ?_
    refine r_if_gt (tgt := 31) C dX12_light_22 (by decide) (fun hc => ?_) (fun hc => ?_)
    · have hf := ifT hf hc
      refine r_iload_n C dX12_light_31 rfl ?_
      refine r_if_lt (tgt := 45) C dX12_light_32 (by decide) (fun hc => ?_) (fun hc => ?_)
      · have hf := ifT hf hc
        exact V.sub (wX12_light_b45 C hret hg7 hf) (LW_s rfl (LW_s rfl (LW_s rfl (LW_n (LW_s rfl (LW_e))))))
      · have hf := ifF hf hc
        refine r_aload_n C dX12_light_35 rfl ?_
        refine r_iload C dX12_light_36 rfl ?_
        obtain ⟨a6, ea6, hf⟩ := bS hf
        obtain ⟨r5, er5, hf⟩ := bS hf
        refine r_invV1 (As := [.inl x4]) (ci := 12) C dX12_light_38 mcX12_left wd_1381 wd_1383 wp_52 rfl rfl (by decide) ⟨by decide, by decide⟩ ⟨by decide, by decide⟩ rfl (Nat.le_of_ble_eq_true rfl) ea6 (kX12_left l G er5) ?_
        refine r_iload_n C dX12_light_41 rfl ?_
        refine r_icmp_ge (tgt := 54) C dX12_light_42 (by decide) (fun hc => ?_) (fun hc => ?_)
        · have hf := ifT hf hc
          refine r_iload_n C dX12_light_54 rfl ?_
          exact V.sub (wX12_light_b55 C hret hg7 hf) (LW_s rfl (LW_s rfl (LW_s rfl (LW_n (LW_s rfl (LW_e))))))
        · have hf := ifF hf hc
          exact V.sub (wX12_light_b45 C hret hg7 hf) (LW_s rfl (LW_s rfl (LW_s rfl (LW_n (LW_s rfl (LW_e))))))
    · have hf := ifF hf hc
      obtain ⟨y7, ey7, hf⟩ := bS hf
      refine r_iincE (v := 1) C dX12_light_25 rfl (by decide) (by decide) ey7 ?_
      refine r_goto (tgt := 56) C dX12_light_28 (by decide) ?_
      exact V.sub (wX12_light_b56 C hret hg7 hf) (LW_s rfl (LW_s rfl (LW_s rfl (LW_s rfl (LW_s rfl (LW_e))))))
theorem wX12_light_b7 {p : Program} {l : Launch} {e : Env} {s : State} {m : MethodId} {args : Array Value} {below : List Frame} {meth : Method} {c : Code} {G : Gl} {N : Nat} {r : Int32 × Hs}  {t : Nat} (C : Cx p s m args meth c cX12_light RX12 5 G) (hret : meth.sig.returnType = (some .int))  : ∀ (n : Nat) (h : Hs) (x1 : Int32) (x2 : Int32) (x3 : Int32) (x4 : Int32), fX12_light_b7 N  t n h x1 x2 x3 x4 = some r → V p l e rmX12_light s m args below meth c G 5 (MQ below (QcG G (some (.inl r.1)) r.2) args s rmX12_light.cells rmX12_light.slots (AG G)) h 0 0 7 [some (.inr (some t)), some (.inl x1), some (.inl x2), some (.inl x3), some (.inl x4)] [] := by
  intro n
  induction n with
  | zero => intro h x1 x2 x3 x4 hf; exact absurd (show (none : Option (Int32 × Hs)) = some r from hf) (fun q => by cases q)
  | succ n ih => intro h x1 x2 x3 x4 hf; exact wX12_light_b7_body C hret  ih (show fX12_light_b7_body N  (fX12_light_b7 N  t n) t h x1 x2 x3 x4 = some r from hf)
noncomputable def fX12_light (N : Nat) (h : Hs) (t : Nat) (p1 : Int32) : Option (Int32 × Hs) :=
  fX12_light_b7 N t N h p1 0 (-1) 0
set_option maxHeartbeats 4000000 in
set_option maxRecDepth 20000 in
theorem kX12_light (l : Launch) (G : Gl) {N : Nat} {h : Hs} {t : Nat} {p1 : Int32} {r : Int32 × Hs} (hf : fX12_light N h t p1 = some r) : CT l G yX12_light cX12_light 5 (some .int) rmX12_light [.inr (some t), .inl p1] h (some (.inl r.1)) r.2 := by
  refine mk_CT (by decide) (Nat.le_of_ble_eq_true rfl) ?_
  intro p e s m args below meth c C hret hin
  unfold fX12_light at hf
  refine r_iconst (v := 0) C dX12_light_0 (by decide) ?_
  refine r_istore_n C dX12_light_1 (by decide) ?_
  refine r_iconst (v := -1) C dX12_light_2 (by decide) ?_
  refine r_istore_n C dX12_light_3 (by decide) ?_
  refine r_iconst (v := 0) C dX12_light_4 (by decide) ?_
  refine r_istore C dX12_light_5 (by decide) ?_
  exact V.sub (wX12_light_b7 C hret N _ _ _ _ _ hf) (LW_s rfl (LW_s rfl (LW_s rfl (LW_s rfl (LW_s rfl (LW_e))))))

theorem dgX12_isSize_0 : (decode cX12_isSize 0 = .ok (.iload_n 0, 1)) ∧ (decode cX12_isSize 1 = .ok (.ifCond .lt 27, 3)) ∧ (decode cX12_isSize 4 = .ok (.iload_n 0, 1)) ∧ (decode cX12_isSize 5 = .ok (.bipush 100, 2)) ∧ (decode cX12_isSize 7 = .ok (.idiv, 1)) ∧ (decode cX12_isSize 8 = .ok (.iconst 1, 1)) ∧ (decode cX12_isSize 9 = .ok (.bipush 99, 2)) ∧ (decode cX12_isSize 11 = .ok (.invokestatic 149, 3)) ∧ (decode cX12_isSize 14 = .ok (.ifCond .eq 14, 3)) ∧ (decode cX12_isSize 17 = .ok (.iload_n 0, 1)) ∧ (decode cX12_isSize 18 = .ok (.bipush 100, 2)) ∧ (decode cX12_isSize 20 = .ok (.irem, 1)) ∧ True := dkW [(0, .iload_n 0, 1), (1, .ifCond .lt 27, 3), (4, .iload_n 0, 1), (5, .bipush 100, 2), (7, .idiv, 1), (8, .iconst 1, 1), (9, .bipush 99, 2), (11, .invokestatic 149, 3), (14, .ifCond .eq 14, 3), (17, .iload_n 0, 1), (18, .bipush 100, 2), (20, .irem, 1)] 0 (by decide +kernel)
theorem dX12_isSize_0 : decode cX12_isSize 0 = .ok (.iload_n 0, 1) := dgX12_isSize_0.1
theorem dX12_isSize_1 : decode cX12_isSize 1 = .ok (.ifCond .lt 27, 3) := dgX12_isSize_0.2.1
theorem dX12_isSize_4 : decode cX12_isSize 4 = .ok (.iload_n 0, 1) := dgX12_isSize_0.2.2.1
theorem dX12_isSize_5 : decode cX12_isSize 5 = .ok (.bipush 100, 2) := dgX12_isSize_0.2.2.2.1
theorem dX12_isSize_7 : decode cX12_isSize 7 = .ok (.idiv, 1) := dgX12_isSize_0.2.2.2.2.1
theorem dX12_isSize_8 : decode cX12_isSize 8 = .ok (.iconst 1, 1) := dgX12_isSize_0.2.2.2.2.2.1
theorem dX12_isSize_9 : decode cX12_isSize 9 = .ok (.bipush 99, 2) := dgX12_isSize_0.2.2.2.2.2.2.1
theorem dX12_isSize_11 : decode cX12_isSize 11 = .ok (.invokestatic 149, 3) := dgX12_isSize_0.2.2.2.2.2.2.2.1
theorem dX12_isSize_14 : decode cX12_isSize 14 = .ok (.ifCond .eq 14, 3) := dgX12_isSize_0.2.2.2.2.2.2.2.2.1
theorem dX12_isSize_17 : decode cX12_isSize 17 = .ok (.iload_n 0, 1) := dgX12_isSize_0.2.2.2.2.2.2.2.2.2.1
theorem dX12_isSize_18 : decode cX12_isSize 18 = .ok (.bipush 100, 2) := dgX12_isSize_0.2.2.2.2.2.2.2.2.2.2.1
theorem dX12_isSize_20 : decode cX12_isSize 20 = .ok (.irem, 1) := dgX12_isSize_0.2.2.2.2.2.2.2.2.2.2.2.1
theorem dgX12_isSize_21 : (decode cX12_isSize 21 = .ok (.ifCond .le 7, 3)) ∧ (decode cX12_isSize 24 = .ok (.iconst 1, 1)) ∧ (decode cX12_isSize 25 = .ok (.goto 4, 3)) ∧ (decode cX12_isSize 28 = .ok (.iconst 0, 1)) ∧ (decode cX12_isSize 29 = .ok (.ireturn, 1)) ∧ True := dkW [(21, .ifCond .le 7, 3), (24, .iconst 1, 1), (25, .goto 4, 3), (28, .iconst 0, 1), (29, .ireturn, 1)] 21 (by decide +kernel)
theorem dX12_isSize_21 : decode cX12_isSize 21 = .ok (.ifCond .le 7, 3) := dgX12_isSize_21.1
theorem dX12_isSize_24 : decode cX12_isSize 24 = .ok (.iconst 1, 1) := dgX12_isSize_21.2.1
theorem dX12_isSize_25 : decode cX12_isSize 25 = .ok (.goto 4, 3) := dgX12_isSize_21.2.2.1
theorem dX12_isSize_28 : decode cX12_isSize 28 = .ok (.iconst 0, 1) := dgX12_isSize_21.2.2.2.1
theorem dX12_isSize_29 : decode cX12_isSize 29 = .ok (.ireturn, 1) := dgX12_isSize_21.2.2.2.2.1
abbrev rmX12_isSize : Room := { frames := 1, cells := 0, slots := 0, locals := 22 }
noncomputable def fX12_isSize_b29 (N : Nat)  (h : Hs) (u0 : Int32) : Option (Int32 × Hs) :=
  (zc u0).bind fun z1 =>
  some (z1, h)
set_option maxHeartbeats 4000000 in
set_option maxRecDepth 20000 in
theorem wX12_isSize_b29 {p : Program} {l : Launch} {e : Env} {s : State} {m : MethodId} {args : Array Value} {below : List Frame} {meth : Method} {c : Code} {G : Gl} {N : Nat} {h : Hs} {r : Int32 × Hs}  {u0 : Int32} (C : Cx p s m args meth c cX12_isSize RX12 1 G) (hret : meth.sig.returnType = (some .boolean))  (hf : fX12_isSize_b29 N  h u0 = some r) : V p l e rmX12_isSize s m args below meth c G 1 (MQ below (QcG G (some (.inl r.1)) r.2) args s rmX12_isSize.cells rmX12_isSize.slots (AG G)) h 0 0 29 [none] [.inl u0] := by
  unfold fX12_isSize_b29 at hf
  obtain ⟨z1, ez1, hf⟩ := bS hf
  exact r_zretF C dX12_isSize_29 hret ez1 hf (by decide) (by decide)
noncomputable def fX12_isSize_b28 (N : Nat)  (h : Hs)  : Option (Int32 × Hs) :=
  fX12_isSize_b29 N h 0
set_option maxHeartbeats 4000000 in
set_option maxRecDepth 20000 in
theorem wX12_isSize_b28 {p : Program} {l : Launch} {e : Env} {s : State} {m : MethodId} {args : Array Value} {below : List Frame} {meth : Method} {c : Code} {G : Gl} {N : Nat} {h : Hs} {r : Int32 × Hs}   (C : Cx p s m args meth c cX12_isSize RX12 1 G) (hret : meth.sig.returnType = (some .boolean))  (hf : fX12_isSize_b28 N  h  = some r) : V p l e rmX12_isSize s m args below meth c G 1 (MQ below (QcG G (some (.inl r.1)) r.2) args s rmX12_isSize.cells rmX12_isSize.slots (AG G)) h 0 0 28 [none] [] := by
  unfold fX12_isSize_b28 at hf
  refine r_iconst (v := 0) C dX12_isSize_28 (by decide) ?_
  exact V.sub (wX12_isSize_b29 C hret hf) (LW_n (LW_e))
noncomputable def fX12_isSize (N : Nat) (h : Hs) (p0 : Int32) : Option (Int32 × Hs) :=
  if p0 < 0 then (
  fX12_isSize_b28 N h)
  else (fX12_in N h (p0 / 100) 1 99).bind fun r1 =>
  if r1.1 = 0 then (
  fX12_isSize_b28 N r1.2)
  else if (p0 - p0 / 100 * 100) ≤ 0 then (
  fX12_isSize_b28 N r1.2)
  else fX12_isSize_b29 N r1.2 1
set_option maxHeartbeats 4000000 in
set_option maxRecDepth 20000 in
theorem kX12_isSize (l : Launch) (G : Gl) {N : Nat} {h : Hs} {p0 : Int32} {r : Int32 × Hs} (hf : fX12_isSize N h p0 = some r) : CT l G yX12_isSize cX12_isSize 1 (some .boolean) rmX12_isSize [.inl p0] h (some (.inl r.1)) r.2 := by
  refine mk_CT (by decide) (Nat.le_of_ble_eq_true rfl) ?_
  intro p e s m args below meth c C hret hin
  unfold fX12_isSize at hf
  refine r_iload_n C dX12_isSize_0 rfl ?_
  refine r_if_lt (tgt := 28) C dX12_isSize_1 (by decide) (fun hc => ?_) (fun hc => ?_)
  · have hf := ifT hf hc
    exact V.sub (wX12_isSize_b28 C hret hf) (LW_n (LW_e))
  · have hf := ifF hf hc
    refine r_iload_n C dX12_isSize_4 rfl ?_
    refine r_bipush (v := 100) C dX12_isSize_5 (by decide) ?_
    refine r_idivK C dX12_isSize_7 (by decide) ?_
    refine r_iconst (v := 1) C dX12_isSize_8 (by decide) ?_
    refine r_bipush (v := 99) C dX12_isSize_9 (by decide) ?_
    obtain ⟨r1, er1, hf⟩ := bS hf
    refine r_invS1 (As := [.inl (p0 / 100), .inl 1, .inl 99]) C dX12_isSize_11 mcX12_in wd_1185 wd_1186 ⟨by decide, by decide⟩ ⟨by decide, by decide⟩ rfl (Nat.le_of_ble_eq_true rfl) (kX12_in l G er1) ?_
    refine r_if_eq (tgt := 28) C dX12_isSize_14 (by decide) (fun hc => ?_) (fun hc => ?_)
    · have hf := ifT hf hc
      exact V.sub (wX12_isSize_b28 C hret hf) (LW_n (LW_e))
    · have hf := ifF hf hc
      refine r_iload_n C dX12_isSize_17 rfl ?_
      refine r_bipush (v := 100) C dX12_isSize_18 (by decide) ?_
      refine r_iremK C dX12_isSize_20 (by decide) ?_
      refine r_if_le (tgt := 28) C dX12_isSize_21 (by decide) (fun hc => ?_) (fun hc => ?_)
      · have hf := ifT hf hc
        exact V.sub (wX12_isSize_b28 C hret hf) (LW_n (LW_e))
      · have hf := ifF hf hc
        refine r_iconst (v := 1) C dX12_isSize_24 (by decide) ?_
        refine r_goto (tgt := 29) C dX12_isSize_25 (by decide) ?_
        exact V.sub (wX12_isSize_b29 C hret hf) (LW_n (LW_e))

theorem dgX12_flat_0 : (decode cX12_flat 0 = .ok (.iload_n 1, 1)) ∧ (decode cX12_flat 1 = .ok (.invokestatic 287, 3)) ∧ (decode cX12_flat 4 = .ok (.ifCond .eq 13, 3)) ∧ (decode cX12_flat 7 = .ok (.iload_n 2, 1)) ∧ (decode cX12_flat 8 = .ok (.iconst 0, 1)) ∧ (decode cX12_flat 9 = .ok (.bipush 9, 2)) ∧ (decode cX12_flat 11 = .ok (.invokestatic 149, 3)) ∧ (decode cX12_flat 14 = .ok (.ifCond .ne 5, 3)) ∧ True := dkW [(0, .iload_n 1, 1), (1, .invokestatic 287, 3), (4, .ifCond .eq 13, 3), (7, .iload_n 2, 1), (8, .iconst 0, 1), (9, .bipush 9, 2), (11, .invokestatic 149, 3), (14, .ifCond .ne 5, 3)] 0 (by decide +kernel)
theorem dX12_flat_0 : decode cX12_flat 0 = .ok (.iload_n 1, 1) := dgX12_flat_0.1
theorem dX12_flat_1 : decode cX12_flat 1 = .ok (.invokestatic 287, 3) := dgX12_flat_0.2.1
theorem dX12_flat_4 : decode cX12_flat 4 = .ok (.ifCond .eq 13, 3) := dgX12_flat_0.2.2.1
theorem dX12_flat_7 : decode cX12_flat 7 = .ok (.iload_n 2, 1) := dgX12_flat_0.2.2.2.1
theorem dX12_flat_8 : decode cX12_flat 8 = .ok (.iconst 0, 1) := dgX12_flat_0.2.2.2.2.1
theorem dX12_flat_9 : decode cX12_flat 9 = .ok (.bipush 9, 2) := dgX12_flat_0.2.2.2.2.2.1
theorem dX12_flat_11 : decode cX12_flat 11 = .ok (.invokestatic 149, 3) := dgX12_flat_0.2.2.2.2.2.2.1
theorem dX12_flat_14 : decode cX12_flat 14 = .ok (.ifCond .ne 5, 3) := dgX12_flat_0.2.2.2.2.2.2.2.1
theorem dX12_flat_17 : decode cX12_flat 17 = .ok (.iconst (-1), 1) := by decide +kernel
theorem dgX12_flat_18 : (decode cX12_flat 18 = .ok (.ireturn, 1)) ∧ (decode cX12_flat 19 = .ok (.aload_n 0, 1)) ∧ (decode cX12_flat 20 = .ok (.getfield 290, 3)) ∧ (decode cX12_flat 23 = .ok (.bipush 12, 2)) ∧ (decode cX12_flat 25 = .ok (.if_icmp .ne 6, 3)) ∧ (decode cX12_flat 28 = .ok (.bipush (-3), 2)) ∧ (decode cX12_flat 30 = .ok (.ireturn, 1)) ∧ (decode cX12_flat 31 = .ok (.aload_n 0, 1)) ∧ (decode cX12_flat 32 = .ok (.getfield 125, 3)) ∧ (decode cX12_flat 35 = .ok (.aload_n 0, 1)) ∧ (decode cX12_flat 36 = .ok (.getfield 290, 3)) ∧ (decode cX12_flat 39 = .ok (.iload_n 1, 1)) ∧ True := dkW [(18, .ireturn, 1), (19, .aload_n 0, 1), (20, .getfield 290, 3), (23, .bipush 12, 2), (25, .if_icmp .ne 6, 3), (28, .bipush (-3), 2), (30, .ireturn, 1), (31, .aload_n 0, 1), (32, .getfield 125, 3), (35, .aload_n 0, 1), (36, .getfield 290, 3), (39, .iload_n 1, 1)] 18 (by decide +kernel)
theorem dX12_flat_18 : decode cX12_flat 18 = .ok (.ireturn, 1) := dgX12_flat_18.1
theorem dX12_flat_19 : decode cX12_flat 19 = .ok (.aload_n 0, 1) := dgX12_flat_18.2.1
theorem dX12_flat_20 : decode cX12_flat 20 = .ok (.getfield 290, 3) := dgX12_flat_18.2.2.1
theorem dX12_flat_23 : decode cX12_flat 23 = .ok (.bipush 12, 2) := dgX12_flat_18.2.2.2.1
theorem dX12_flat_25 : decode cX12_flat 25 = .ok (.if_icmp .ne 6, 3) := dgX12_flat_18.2.2.2.2.1
theorem dX12_flat_28 : decode cX12_flat 28 = .ok (.bipush (-3), 2) := dgX12_flat_18.2.2.2.2.2.1
theorem dX12_flat_30 : decode cX12_flat 30 = .ok (.ireturn, 1) := dgX12_flat_18.2.2.2.2.2.2.1
theorem dX12_flat_31 : decode cX12_flat 31 = .ok (.aload_n 0, 1) := dgX12_flat_18.2.2.2.2.2.2.2.1
theorem dX12_flat_32 : decode cX12_flat 32 = .ok (.getfield 125, 3) := dgX12_flat_18.2.2.2.2.2.2.2.2.1
theorem dX12_flat_35 : decode cX12_flat 35 = .ok (.aload_n 0, 1) := dgX12_flat_18.2.2.2.2.2.2.2.2.2.1
theorem dX12_flat_36 : decode cX12_flat 36 = .ok (.getfield 290, 3) := dgX12_flat_18.2.2.2.2.2.2.2.2.2.2.1
theorem dX12_flat_39 : decode cX12_flat 39 = .ok (.iload_n 1, 1) := dgX12_flat_18.2.2.2.2.2.2.2.2.2.2.2.1
theorem dgX12_flat_40 : (decode cX12_flat 40 = .ok (.iastore, 1)) ∧ (decode cX12_flat 41 = .ok (.aload_n 0, 1)) ∧ (decode cX12_flat 42 = .ok (.getfield 128, 3)) ∧ (decode cX12_flat 45 = .ok (.aload_n 0, 1)) ∧ (decode cX12_flat 46 = .ok (.getfield 290, 3)) ∧ (decode cX12_flat 49 = .ok (.iload_n 2, 1)) ∧ (decode cX12_flat 50 = .ok (.iastore, 1)) ∧ (decode cX12_flat 51 = .ok (.aload_n 0, 1)) ∧ (decode cX12_flat 52 = .ok (.dup, 1)) ∧ (decode cX12_flat 53 = .ok (.getfield 290, 3)) ∧ (decode cX12_flat 56 = .ok (.iconst 1, 1)) ∧ (decode cX12_flat 57 = .ok (.iadd, 1)) ∧ True := dkW [(40, .iastore, 1), (41, .aload_n 0, 1), (42, .getfield 128, 3), (45, .aload_n 0, 1), (46, .getfield 290, 3), (49, .iload_n 2, 1), (50, .iastore, 1), (51, .aload_n 0, 1), (52, .dup, 1), (53, .getfield 290, 3), (56, .iconst 1, 1), (57, .iadd, 1)] 40 (by decide +kernel)
theorem dX12_flat_40 : decode cX12_flat 40 = .ok (.iastore, 1) := dgX12_flat_40.1
theorem dX12_flat_41 : decode cX12_flat 41 = .ok (.aload_n 0, 1) := dgX12_flat_40.2.1
theorem dX12_flat_42 : decode cX12_flat 42 = .ok (.getfield 128, 3) := dgX12_flat_40.2.2.1
theorem dX12_flat_45 : decode cX12_flat 45 = .ok (.aload_n 0, 1) := dgX12_flat_40.2.2.2.1
theorem dX12_flat_46 : decode cX12_flat 46 = .ok (.getfield 290, 3) := dgX12_flat_40.2.2.2.2.1
theorem dX12_flat_49 : decode cX12_flat 49 = .ok (.iload_n 2, 1) := dgX12_flat_40.2.2.2.2.2.1
theorem dX12_flat_50 : decode cX12_flat 50 = .ok (.iastore, 1) := dgX12_flat_40.2.2.2.2.2.2.1
theorem dX12_flat_51 : decode cX12_flat 51 = .ok (.aload_n 0, 1) := dgX12_flat_40.2.2.2.2.2.2.2.1
theorem dX12_flat_52 : decode cX12_flat 52 = .ok (.dup, 1) := dgX12_flat_40.2.2.2.2.2.2.2.2.1
theorem dX12_flat_53 : decode cX12_flat 53 = .ok (.getfield 290, 3) := dgX12_flat_40.2.2.2.2.2.2.2.2.2.1
theorem dX12_flat_56 : decode cX12_flat 56 = .ok (.iconst 1, 1) := dgX12_flat_40.2.2.2.2.2.2.2.2.2.2.1
theorem dX12_flat_57 : decode cX12_flat 57 = .ok (.iadd, 1) := dgX12_flat_40.2.2.2.2.2.2.2.2.2.2.2.1
theorem dgX12_flat_58 : (decode cX12_flat 58 = .ok (.putfield 290, 3)) ∧ (decode cX12_flat 61 = .ok (.aload_n 0, 1)) ∧ (decode cX12_flat 62 = .ok (.getfield 290, 3)) ∧ (decode cX12_flat 65 = .ok (.iconst 1, 1)) ∧ (decode cX12_flat 66 = .ok (.isub, 1)) ∧ (decode cX12_flat 67 = .ok (.ireturn, 1)) ∧ True := dkW [(58, .putfield 290, 3), (61, .aload_n 0, 1), (62, .getfield 290, 3), (65, .iconst 1, 1), (66, .isub, 1), (67, .ireturn, 1)] 58 (by decide +kernel)
theorem dX12_flat_58 : decode cX12_flat 58 = .ok (.putfield 290, 3) := dgX12_flat_58.1
theorem dX12_flat_61 : decode cX12_flat 61 = .ok (.aload_n 0, 1) := dgX12_flat_58.2.1
theorem dX12_flat_62 : decode cX12_flat 62 = .ok (.getfield 290, 3) := dgX12_flat_58.2.2.1
theorem dX12_flat_65 : decode cX12_flat 65 = .ok (.iconst 1, 1) := dgX12_flat_58.2.2.2.1
theorem dX12_flat_66 : decode cX12_flat 66 = .ok (.isub, 1) := dgX12_flat_58.2.2.2.2.1
theorem dX12_flat_67 : decode cX12_flat 67 = .ok (.ireturn, 1) := dgX12_flat_58.2.2.2.2.2.1
abbrev rmX12_flat : Room := { frames := 2, cells := 0, slots := 0, locals := 42 }
noncomputable def fX12_flat_b17 (N : Nat)  (t : Nat) (h : Hs)  : Option (Int32 × Hs) :=
  some ((-1), h)
set_option maxHeartbeats 4000000 in
set_option maxRecDepth 20000 in
theorem wX12_flat_b17 {p : Program} {l : Launch} {e : Env} {s : State} {m : MethodId} {args : Array Value} {below : List Frame} {meth : Method} {c : Code} {G : Gl} {N : Nat} {h : Hs} {r : Int32 × Hs}  {t : Nat}  (C : Cx p s m args meth c cX12_flat RX12 3 G) (hret : meth.sig.returnType = (some .int))  (hf : fX12_flat_b17 N  t h  = some r) : V p l e rmX12_flat s m args below meth c G 3 (MQ below (QcG G (some (.inl r.1)) r.2) args s rmX12_flat.cells rmX12_flat.slots (AG G)) h 0 0 17 [some (.inr (some t)), none, none] [] := by
  unfold fX12_flat_b17 at hf
  refine r_iconst (v := -1) C dX12_flat_17 (by decide) ?_
  exact r_iretF C dX12_flat_18 hret hf (by decide) (by decide)
noncomputable def fX12_flat (N : Nat) (h : Hs) (t : Nat) (p1 : Int32) (p2 : Int32) : Option (Int32 × Hs) :=
  (fX12_isSize N h p1).bind fun r1 =>
  if r1.1 = 0 then (
  fX12_flat_b17 N t r1.2)
  else (fX12_in N r1.2 p2 0 9).bind fun r2 =>
  if r2.1 = 0 then (
  fX12_flat_b17 N t r2.2)
  else (oI 12 56 r2.2 (some t)).bind fun v3 =>
  if v3 = 12 then (
  some ((-3), r2.2))
  else (oR 12 57 r2.2 (some t)).bind fun o4 =>
  (oI 12 56 r2.2 (some t)).bind fun v5 =>
  (sA r2.2 o4 v5 p1).bind fun h6 =>
  (oR 12 58 h6 (some t)).bind fun o7 =>
  (oI 12 56 h6 (some t)).bind fun v8 =>
  (sA h6 o7 v8 p2).bind fun h9 =>
  (oI 12 56 h9 (some t)).bind fun v10 =>
  (qI 12 56 h9 (some t) (v10 + 1)).bind fun h11 =>
  (oI 12 56 h11 (some t)).bind fun v12 =>
  some (v12 - 1, h11)
set_option maxHeartbeats 4000000 in
set_option maxRecDepth 20000 in
theorem kX12_flat (l : Launch) (G : Gl) {N : Nat} {h : Hs} {t : Nat} {p1 : Int32} {p2 : Int32} {r : Int32 × Hs} (hf : fX12_flat N h t p1 p2 = some r) : CT l G yX12_flat cX12_flat 3 (some .int) rmX12_flat [.inr (some t), .inl p1, .inl p2] h (some (.inl r.1)) r.2 := by
  refine mk_CT (by decide) (Nat.le_of_ble_eq_true rfl) ?_
  intro p e s m args below meth c C hret hin
  unfold fX12_flat at hf
  refine r_iload_n C dX12_flat_0 rfl ?_
  obtain ⟨r1, er1, hf⟩ := bS hf
  refine r_invS1 (As := [.inl p1]) C dX12_flat_1 mcX12_isSize wd_1393 wd_1394 ⟨by decide, by decide⟩ ⟨by decide, by decide⟩ rfl (Nat.le_of_ble_eq_true rfl) (kX12_isSize l G er1) ?_
  refine r_if_eq (tgt := 17) C dX12_flat_4 (by decide) (fun hc => ?_) (fun hc => ?_)
  · have hf := ifT hf hc
    exact V.sub (wX12_flat_b17 C hret hf) (LW_s rfl (LW_n (LW_n (LW_e))))
  · have hf := ifF hf hc
    refine r_iload_n C dX12_flat_7 rfl ?_
    refine r_iconst (v := 0) C dX12_flat_8 (by decide) ?_
    refine r_bipush (v := 9) C dX12_flat_9 (by decide) ?_
    obtain ⟨r2, er2, hf⟩ := bS hf
    refine r_invS1 (As := [.inl p2, .inl 0, .inl 9]) C dX12_flat_11 mcX12_in wd_1185 wd_1186 ⟨by decide, by decide⟩ ⟨by decide, by decide⟩ rfl (Nat.le_of_ble_eq_true rfl) (kX12_in l G er2) ?_
    refine r_if_ne (tgt := 19) C dX12_flat_14 (by decide) (fun hc => ?_) (fun hc => ?_)
    · have hf := ifF hf hc
      refine r_aload_n C dX12_flat_19 rfl ?_
      obtain ⟨v3, ev3, hf⟩ := bS hf
      refine r_getI C dX12_flat_20 fl_X12_290 rfl ev3 ?_
      refine r_bipush (v := 12) C dX12_flat_23 (by decide) ?_
      refine r_icmp_ne (tgt := 31) C dX12_flat_25 (by decide) (fun hc => ?_) (fun hc => ?_)
      · have hf := ifF hf hc
        refine r_aload_n C dX12_flat_31 rfl ?_
        obtain ⟨o4, eo4, hf⟩ := bS hf
        refine r_getR C dX12_flat_32 fl_X12_125 rfl eo4 ?_
        refine r_aload_n C dX12_flat_35 rfl ?_
        obtain ⟨v5, ev5, hf⟩ := bS hf
        refine r_getI C dX12_flat_36 fl_X12_290 rfl ev5 ?_
        refine r_iload_n C dX12_flat_39 rfl ?_
        obtain ⟨h6, eh6, hf⟩ := bS hf
        refine r_iast C dX12_flat_40 eh6 ?_
        refine r_aload_n C dX12_flat_41 rfl ?_
        obtain ⟨o7, eo7, hf⟩ := bS hf
        refine r_getR C dX12_flat_42 fl_X12_128 rfl eo7 ?_
        refine r_aload_n C dX12_flat_45 rfl ?_
        obtain ⟨v8, ev8, hf⟩ := bS hf
        refine r_getI C dX12_flat_46 fl_X12_290 rfl ev8 ?_
        refine r_iload_n C dX12_flat_49 rfl ?_
        obtain ⟨h9, eh9, hf⟩ := bS hf
        refine r_iast C dX12_flat_50 eh9 ?_
        refine r_aload_n C dX12_flat_51 rfl ?_
        refine r_dup C dX12_flat_52 ?_
        obtain ⟨v10, ev10, hf⟩ := bS hf
        refine r_getI C dX12_flat_53 fl_X12_290 rfl ev10 ?_
        refine r_iconst (v := 1) C dX12_flat_56 (by decide) ?_
        refine r_iadd C dX12_flat_57 ?_
        obtain ⟨h11, eh11, hf⟩ := bS hf
        refine r_putI C dX12_flat_58 fl_X12_290 (Or.inl fn_12_56) rfl eh11 ?_
        refine r_aload_n C dX12_flat_61 rfl ?_
        obtain ⟨v12, ev12, hf⟩ := bS hf
        refine r_getI C dX12_flat_62 fl_X12_290 rfl ev12 ?_
        refine r_iconst (v := 1) C dX12_flat_65 (by decide) ?_
        refine r_isub C dX12_flat_66 ?_
        exact r_iretF C dX12_flat_67 hret hf (by decide) (by decide)
      · have hf := ifT hf hc
        refine r_bipush (v := -3) C dX12_flat_28 (by decide) ?_
        exact r_iretF C dX12_flat_30 hret hf (by decide) (by decide)
    · have hf := ifT hf hc
      exact V.sub (wX12_flat_b17 C hret hf) (LW_s rfl (LW_n (LW_n (LW_e))))

theorem dgX12_want_0 : (decode cX12_want 0 = .ok (.iload_n 1, 1)) ∧ (decode cX12_want 1 = .ok (.invokestatic 287, 3)) ∧ (decode cX12_want 4 = .ok (.ifCond .eq 13, 3)) ∧ (decode cX12_want 7 = .ok (.iload_n 2, 1)) ∧ (decode cX12_want 8 = .ok (.iconst 0, 1)) ∧ (decode cX12_want 9 = .ok (.bipush 9, 2)) ∧ (decode cX12_want 11 = .ok (.invokestatic 149, 3)) ∧ (decode cX12_want 14 = .ok (.ifCond .ne 5, 3)) ∧ True := dkW [(0, .iload_n 1, 1), (1, .invokestatic 287, 3), (4, .ifCond .eq 13, 3), (7, .iload_n 2, 1), (8, .iconst 0, 1), (9, .bipush 9, 2), (11, .invokestatic 149, 3), (14, .ifCond .ne 5, 3)] 0 (by decide +kernel)
theorem dX12_want_0 : decode cX12_want 0 = .ok (.iload_n 1, 1) := dgX12_want_0.1
theorem dX12_want_1 : decode cX12_want 1 = .ok (.invokestatic 287, 3) := dgX12_want_0.2.1
theorem dX12_want_4 : decode cX12_want 4 = .ok (.ifCond .eq 13, 3) := dgX12_want_0.2.2.1
theorem dX12_want_7 : decode cX12_want 7 = .ok (.iload_n 2, 1) := dgX12_want_0.2.2.2.1
theorem dX12_want_8 : decode cX12_want 8 = .ok (.iconst 0, 1) := dgX12_want_0.2.2.2.2.1
theorem dX12_want_9 : decode cX12_want 9 = .ok (.bipush 9, 2) := dgX12_want_0.2.2.2.2.2.1
theorem dX12_want_11 : decode cX12_want 11 = .ok (.invokestatic 149, 3) := dgX12_want_0.2.2.2.2.2.2.1
theorem dX12_want_14 : decode cX12_want 14 = .ok (.ifCond .ne 5, 3) := dgX12_want_0.2.2.2.2.2.2.2.1
theorem dX12_want_17 : decode cX12_want 17 = .ok (.iconst (-1), 1) := by decide +kernel
theorem dgX12_want_18 : (decode cX12_want 18 = .ok (.ireturn, 1)) ∧ (decode cX12_want 19 = .ok (.aload_n 0, 1)) ∧ (decode cX12_want 20 = .ok (.getfield 293, 3)) ∧ (decode cX12_want 23 = .ok (.bipush 6, 2)) ∧ (decode cX12_want 25 = .ok (.if_icmp .ne 6, 3)) ∧ (decode cX12_want 28 = .ok (.bipush (-3), 2)) ∧ (decode cX12_want 30 = .ok (.ireturn, 1)) ∧ (decode cX12_want 31 = .ok (.aload_n 0, 1)) ∧ (decode cX12_want 32 = .ok (.getfield 131, 3)) ∧ (decode cX12_want 35 = .ok (.aload_n 0, 1)) ∧ (decode cX12_want 36 = .ok (.getfield 293, 3)) ∧ (decode cX12_want 39 = .ok (.iload_n 1, 1)) ∧ True := dkW [(18, .ireturn, 1), (19, .aload_n 0, 1), (20, .getfield 293, 3), (23, .bipush 6, 2), (25, .if_icmp .ne 6, 3), (28, .bipush (-3), 2), (30, .ireturn, 1), (31, .aload_n 0, 1), (32, .getfield 131, 3), (35, .aload_n 0, 1), (36, .getfield 293, 3), (39, .iload_n 1, 1)] 18 (by decide +kernel)
theorem dX12_want_18 : decode cX12_want 18 = .ok (.ireturn, 1) := dgX12_want_18.1
theorem dX12_want_19 : decode cX12_want 19 = .ok (.aload_n 0, 1) := dgX12_want_18.2.1
theorem dX12_want_20 : decode cX12_want 20 = .ok (.getfield 293, 3) := dgX12_want_18.2.2.1
theorem dX12_want_23 : decode cX12_want 23 = .ok (.bipush 6, 2) := dgX12_want_18.2.2.2.1
theorem dX12_want_25 : decode cX12_want 25 = .ok (.if_icmp .ne 6, 3) := dgX12_want_18.2.2.2.2.1
theorem dX12_want_28 : decode cX12_want 28 = .ok (.bipush (-3), 2) := dgX12_want_18.2.2.2.2.2.1
theorem dX12_want_30 : decode cX12_want 30 = .ok (.ireturn, 1) := dgX12_want_18.2.2.2.2.2.2.1
theorem dX12_want_31 : decode cX12_want 31 = .ok (.aload_n 0, 1) := dgX12_want_18.2.2.2.2.2.2.2.1
theorem dX12_want_32 : decode cX12_want 32 = .ok (.getfield 131, 3) := dgX12_want_18.2.2.2.2.2.2.2.2.1
theorem dX12_want_35 : decode cX12_want 35 = .ok (.aload_n 0, 1) := dgX12_want_18.2.2.2.2.2.2.2.2.2.1
theorem dX12_want_36 : decode cX12_want 36 = .ok (.getfield 293, 3) := dgX12_want_18.2.2.2.2.2.2.2.2.2.2.1
theorem dX12_want_39 : decode cX12_want 39 = .ok (.iload_n 1, 1) := dgX12_want_18.2.2.2.2.2.2.2.2.2.2.2.1
theorem dgX12_want_40 : (decode cX12_want 40 = .ok (.iastore, 1)) ∧ (decode cX12_want 41 = .ok (.aload_n 0, 1)) ∧ (decode cX12_want 42 = .ok (.getfield 134, 3)) ∧ (decode cX12_want 45 = .ok (.aload_n 0, 1)) ∧ (decode cX12_want 46 = .ok (.getfield 293, 3)) ∧ (decode cX12_want 49 = .ok (.iload_n 2, 1)) ∧ (decode cX12_want 50 = .ok (.iastore, 1)) ∧ (decode cX12_want 51 = .ok (.aload_n 0, 1)) ∧ (decode cX12_want 52 = .ok (.dup, 1)) ∧ (decode cX12_want 53 = .ok (.getfield 293, 3)) ∧ (decode cX12_want 56 = .ok (.iconst 1, 1)) ∧ (decode cX12_want 57 = .ok (.iadd, 1)) ∧ True := dkW [(40, .iastore, 1), (41, .aload_n 0, 1), (42, .getfield 134, 3), (45, .aload_n 0, 1), (46, .getfield 293, 3), (49, .iload_n 2, 1), (50, .iastore, 1), (51, .aload_n 0, 1), (52, .dup, 1), (53, .getfield 293, 3), (56, .iconst 1, 1), (57, .iadd, 1)] 40 (by decide +kernel)
theorem dX12_want_40 : decode cX12_want 40 = .ok (.iastore, 1) := dgX12_want_40.1
theorem dX12_want_41 : decode cX12_want 41 = .ok (.aload_n 0, 1) := dgX12_want_40.2.1
theorem dX12_want_42 : decode cX12_want 42 = .ok (.getfield 134, 3) := dgX12_want_40.2.2.1
theorem dX12_want_45 : decode cX12_want 45 = .ok (.aload_n 0, 1) := dgX12_want_40.2.2.2.1
theorem dX12_want_46 : decode cX12_want 46 = .ok (.getfield 293, 3) := dgX12_want_40.2.2.2.2.1
theorem dX12_want_49 : decode cX12_want 49 = .ok (.iload_n 2, 1) := dgX12_want_40.2.2.2.2.2.1
theorem dX12_want_50 : decode cX12_want 50 = .ok (.iastore, 1) := dgX12_want_40.2.2.2.2.2.2.1
theorem dX12_want_51 : decode cX12_want 51 = .ok (.aload_n 0, 1) := dgX12_want_40.2.2.2.2.2.2.2.1
theorem dX12_want_52 : decode cX12_want 52 = .ok (.dup, 1) := dgX12_want_40.2.2.2.2.2.2.2.2.1
theorem dX12_want_53 : decode cX12_want 53 = .ok (.getfield 293, 3) := dgX12_want_40.2.2.2.2.2.2.2.2.2.1
theorem dX12_want_56 : decode cX12_want 56 = .ok (.iconst 1, 1) := dgX12_want_40.2.2.2.2.2.2.2.2.2.2.1
theorem dX12_want_57 : decode cX12_want 57 = .ok (.iadd, 1) := dgX12_want_40.2.2.2.2.2.2.2.2.2.2.2.1
theorem dgX12_want_58 : (decode cX12_want 58 = .ok (.putfield 293, 3)) ∧ (decode cX12_want 61 = .ok (.aload_n 0, 1)) ∧ (decode cX12_want 62 = .ok (.getfield 293, 3)) ∧ (decode cX12_want 65 = .ok (.ireturn, 1)) ∧ True := dkW [(58, .putfield 293, 3), (61, .aload_n 0, 1), (62, .getfield 293, 3), (65, .ireturn, 1)] 58 (by decide +kernel)
theorem dX12_want_58 : decode cX12_want 58 = .ok (.putfield 293, 3) := dgX12_want_58.1
theorem dX12_want_61 : decode cX12_want 61 = .ok (.aload_n 0, 1) := dgX12_want_58.2.1
theorem dX12_want_62 : decode cX12_want 62 = .ok (.getfield 293, 3) := dgX12_want_58.2.2.1
theorem dX12_want_65 : decode cX12_want 65 = .ok (.ireturn, 1) := dgX12_want_58.2.2.2.1
abbrev rmX12_want : Room := { frames := 2, cells := 0, slots := 0, locals := 42 }
noncomputable def fX12_want_b17 (N : Nat)  (t : Nat) (h : Hs)  : Option (Int32 × Hs) :=
  some ((-1), h)
set_option maxHeartbeats 4000000 in
set_option maxRecDepth 20000 in
theorem wX12_want_b17 {p : Program} {l : Launch} {e : Env} {s : State} {m : MethodId} {args : Array Value} {below : List Frame} {meth : Method} {c : Code} {G : Gl} {N : Nat} {h : Hs} {r : Int32 × Hs}  {t : Nat}  (C : Cx p s m args meth c cX12_want RX12 3 G) (hret : meth.sig.returnType = (some .int))  (hf : fX12_want_b17 N  t h  = some r) : V p l e rmX12_want s m args below meth c G 3 (MQ below (QcG G (some (.inl r.1)) r.2) args s rmX12_want.cells rmX12_want.slots (AG G)) h 0 0 17 [some (.inr (some t)), none, none] [] := by
  unfold fX12_want_b17 at hf
  refine r_iconst (v := -1) C dX12_want_17 (by decide) ?_
  exact r_iretF C dX12_want_18 hret hf (by decide) (by decide)
noncomputable def fX12_want (N : Nat) (h : Hs) (t : Nat) (p1 : Int32) (p2 : Int32) : Option (Int32 × Hs) :=
  (fX12_isSize N h p1).bind fun r1 =>
  if r1.1 = 0 then (
  fX12_want_b17 N t r1.2)
  else (fX12_in N r1.2 p2 0 9).bind fun r2 =>
  if r2.1 = 0 then (
  fX12_want_b17 N t r2.2)
  else (oI 12 59 r2.2 (some t)).bind fun v3 =>
  if v3 = 6 then (
  some ((-3), r2.2))
  else (oR 12 60 r2.2 (some t)).bind fun o4 =>
  (oI 12 59 r2.2 (some t)).bind fun v5 =>
  (sA r2.2 o4 v5 p1).bind fun h6 =>
  (oR 12 61 h6 (some t)).bind fun o7 =>
  (oI 12 59 h6 (some t)).bind fun v8 =>
  (sA h6 o7 v8 p2).bind fun h9 =>
  (oI 12 59 h9 (some t)).bind fun v10 =>
  (qI 12 59 h9 (some t) (v10 + 1)).bind fun h11 =>
  (oI 12 59 h11 (some t)).bind fun v12 =>
  some (v12, h11)
set_option maxHeartbeats 4000000 in
set_option maxRecDepth 20000 in
theorem kX12_want (l : Launch) (G : Gl) {N : Nat} {h : Hs} {t : Nat} {p1 : Int32} {p2 : Int32} {r : Int32 × Hs} (hf : fX12_want N h t p1 p2 = some r) : CT l G yX12_want cX12_want 3 (some .int) rmX12_want [.inr (some t), .inl p1, .inl p2] h (some (.inl r.1)) r.2 := by
  refine mk_CT (by decide) (Nat.le_of_ble_eq_true rfl) ?_
  intro p e s m args below meth c C hret hin
  unfold fX12_want at hf
  refine r_iload_n C dX12_want_0 rfl ?_
  obtain ⟨r1, er1, hf⟩ := bS hf
  refine r_invS1 (As := [.inl p1]) C dX12_want_1 mcX12_isSize wd_1393 wd_1394 ⟨by decide, by decide⟩ ⟨by decide, by decide⟩ rfl (Nat.le_of_ble_eq_true rfl) (kX12_isSize l G er1) ?_
  refine r_if_eq (tgt := 17) C dX12_want_4 (by decide) (fun hc => ?_) (fun hc => ?_)
  · have hf := ifT hf hc
    exact V.sub (wX12_want_b17 C hret hf) (LW_s rfl (LW_n (LW_n (LW_e))))
  · have hf := ifF hf hc
    refine r_iload_n C dX12_want_7 rfl ?_
    refine r_iconst (v := 0) C dX12_want_8 (by decide) ?_
    refine r_bipush (v := 9) C dX12_want_9 (by decide) ?_
    obtain ⟨r2, er2, hf⟩ := bS hf
    refine r_invS1 (As := [.inl p2, .inl 0, .inl 9]) C dX12_want_11 mcX12_in wd_1185 wd_1186 ⟨by decide, by decide⟩ ⟨by decide, by decide⟩ rfl (Nat.le_of_ble_eq_true rfl) (kX12_in l G er2) ?_
    refine r_if_ne (tgt := 19) C dX12_want_14 (by decide) (fun hc => ?_) (fun hc => ?_)
    · have hf := ifF hf hc
      refine r_aload_n C dX12_want_19 rfl ?_
      obtain ⟨v3, ev3, hf⟩ := bS hf
      refine r_getI C dX12_want_20 fl_X12_293 rfl ev3 ?_
      refine r_bipush (v := 6) C dX12_want_23 (by decide) ?_
      refine r_icmp_ne (tgt := 31) C dX12_want_25 (by decide) (fun hc => ?_) (fun hc => ?_)
      · have hf := ifF hf hc
        refine r_aload_n C dX12_want_31 rfl ?_
        obtain ⟨o4, eo4, hf⟩ := bS hf
        refine r_getR C dX12_want_32 fl_X12_131 rfl eo4 ?_
        refine r_aload_n C dX12_want_35 rfl ?_
        obtain ⟨v5, ev5, hf⟩ := bS hf
        refine r_getI C dX12_want_36 fl_X12_293 rfl ev5 ?_
        refine r_iload_n C dX12_want_39 rfl ?_
        obtain ⟨h6, eh6, hf⟩ := bS hf
        refine r_iast C dX12_want_40 eh6 ?_
        refine r_aload_n C dX12_want_41 rfl ?_
        obtain ⟨o7, eo7, hf⟩ := bS hf
        refine r_getR C dX12_want_42 fl_X12_134 rfl eo7 ?_
        refine r_aload_n C dX12_want_45 rfl ?_
        obtain ⟨v8, ev8, hf⟩ := bS hf
        refine r_getI C dX12_want_46 fl_X12_293 rfl ev8 ?_
        refine r_iload_n C dX12_want_49 rfl ?_
        obtain ⟨h9, eh9, hf⟩ := bS hf
        refine r_iast C dX12_want_50 eh9 ?_
        refine r_aload_n C dX12_want_51 rfl ?_
        refine r_dup C dX12_want_52 ?_
        obtain ⟨v10, ev10, hf⟩ := bS hf
        refine r_getI C dX12_want_53 fl_X12_293 rfl ev10 ?_
        refine r_iconst (v := 1) C dX12_want_56 (by decide) ?_
        refine r_iadd C dX12_want_57 ?_
        obtain ⟨h11, eh11, hf⟩ := bS hf
        refine r_putI C dX12_want_58 fl_X12_293 (Or.inl fn_12_59) rfl eh11 ?_
        refine r_aload_n C dX12_want_61 rfl ?_
        obtain ⟨v12, ev12, hf⟩ := bS hf
        refine r_getI C dX12_want_62 fl_X12_293 rfl ev12 ?_
        exact r_iretF C dX12_want_65 hret hf (by decide) (by decide)
      · have hf := ifT hf hc
        refine r_bipush (v := -3) C dX12_want_28 (by decide) ?_
        exact r_iretF C dX12_want_30 hret hf (by decide) (by decide)
    · have hf := ifT hf hc
      exact V.sub (wX12_want_b17 C hret hf) (LW_s rfl (LW_n (LW_n (LW_e))))

theorem dgX12_area_0 : (decode cX12_area 0 = .ok (.iload_n 0, 1)) ∧ (decode cX12_area 1 = .ok (.bipush 100, 2)) ∧ (decode cX12_area 3 = .ok (.idiv, 1)) ∧ (decode cX12_area 4 = .ok (.iload_n 0, 1)) ∧ (decode cX12_area 5 = .ok (.bipush 100, 2)) ∧ (decode cX12_area 7 = .ok (.irem, 1)) ∧ (decode cX12_area 8 = .ok (.imul, 1)) ∧ (decode cX12_area 9 = .ok (.ireturn, 1)) ∧ True := dkW [(0, .iload_n 0, 1), (1, .bipush 100, 2), (3, .idiv, 1), (4, .iload_n 0, 1), (5, .bipush 100, 2), (7, .irem, 1), (8, .imul, 1), (9, .ireturn, 1)] 0 (by decide +kernel)
theorem dX12_area_0 : decode cX12_area 0 = .ok (.iload_n 0, 1) := dgX12_area_0.1
theorem dX12_area_1 : decode cX12_area 1 = .ok (.bipush 100, 2) := dgX12_area_0.2.1
theorem dX12_area_3 : decode cX12_area 3 = .ok (.idiv, 1) := dgX12_area_0.2.2.1
theorem dX12_area_4 : decode cX12_area 4 = .ok (.iload_n 0, 1) := dgX12_area_0.2.2.2.1
theorem dX12_area_5 : decode cX12_area 5 = .ok (.bipush 100, 2) := dgX12_area_0.2.2.2.2.1
theorem dX12_area_7 : decode cX12_area 7 = .ok (.irem, 1) := dgX12_area_0.2.2.2.2.2.1
theorem dX12_area_8 : decode cX12_area 8 = .ok (.imul, 1) := dgX12_area_0.2.2.2.2.2.2.1
theorem dX12_area_9 : decode cX12_area 9 = .ok (.ireturn, 1) := dgX12_area_0.2.2.2.2.2.2.2.1
abbrev rmX12_area : Room := { frames := 0, cells := 0, slots := 0, locals := 0 }
noncomputable def fX12_area (N : Nat) (h : Hs) (p0 : Int32) : Option (Int32 × Hs) :=
  some ((p0 / 100) * (p0 - p0 / 100 * 100), h)
set_option maxHeartbeats 4000000 in
set_option maxRecDepth 20000 in
theorem kX12_area (l : Launch) (G : Gl) {N : Nat} {h : Hs} {p0 : Int32} {r : Int32 × Hs} (hf : fX12_area N h p0 = some r) : CT l G yX12_area cX12_area 1 (some .int) rmX12_area [.inl p0] h (some (.inl r.1)) r.2 := by
  refine mk_CT (by decide) (Nat.le_of_ble_eq_true rfl) ?_
  intro p e s m args below meth c C hret hin
  unfold fX12_area at hf
  refine r_iload_n C dX12_area_0 rfl ?_
  refine r_bipush (v := 100) C dX12_area_1 (by decide) ?_
  refine r_idivK C dX12_area_3 (by decide) ?_
  refine r_iload_n C dX12_area_4 rfl ?_
  refine r_bipush (v := 100) C dX12_area_5 (by decide) ?_
  refine r_iremK C dX12_area_7 (by decide) ?_
  refine r_imul C dX12_area_8 ?_
  exact r_iretF C dX12_area_9 hret hf (by decide) (by decide)

theorem dgX12_cost_0 : (decode cX12_cost 0 = .ok (.aload_n 0, 1)) ∧ (decode cX12_cost 1 = .ok (.getfield 125, 3)) ∧ (decode cX12_cost 4 = .ok (.iload_n 1, 1)) ∧ (decode cX12_cost 5 = .ok (.iaload, 1)) ∧ (decode cX12_cost 6 = .ok (.bipush 100, 2)) ∧ (decode cX12_cost 8 = .ok (.idiv, 1)) ∧ (decode cX12_cost 9 = .ok (.aload_n 0, 1)) ∧ (decode cX12_cost 10 = .ok (.getfield 131, 3)) ∧ (decode cX12_cost 13 = .ok (.iload_n 2, 1)) ∧ (decode cX12_cost 14 = .ok (.iaload, 1)) ∧ (decode cX12_cost 15 = .ok (.bipush 100, 2)) ∧ (decode cX12_cost 17 = .ok (.idiv, 1)) ∧ True := dkW [(0, .aload_n 0, 1), (1, .getfield 125, 3), (4, .iload_n 1, 1), (5, .iaload, 1), (6, .bipush 100, 2), (8, .idiv, 1), (9, .aload_n 0, 1), (10, .getfield 131, 3), (13, .iload_n 2, 1), (14, .iaload, 1), (15, .bipush 100, 2), (17, .idiv, 1)] 0 (by decide +kernel)
theorem dX12_cost_0 : decode cX12_cost 0 = .ok (.aload_n 0, 1) := dgX12_cost_0.1
theorem dX12_cost_1 : decode cX12_cost 1 = .ok (.getfield 125, 3) := dgX12_cost_0.2.1
theorem dX12_cost_4 : decode cX12_cost 4 = .ok (.iload_n 1, 1) := dgX12_cost_0.2.2.1
theorem dX12_cost_5 : decode cX12_cost 5 = .ok (.iaload, 1) := dgX12_cost_0.2.2.2.1
theorem dX12_cost_6 : decode cX12_cost 6 = .ok (.bipush 100, 2) := dgX12_cost_0.2.2.2.2.1
theorem dX12_cost_8 : decode cX12_cost 8 = .ok (.idiv, 1) := dgX12_cost_0.2.2.2.2.2.1
theorem dX12_cost_9 : decode cX12_cost 9 = .ok (.aload_n 0, 1) := dgX12_cost_0.2.2.2.2.2.2.1
theorem dX12_cost_10 : decode cX12_cost 10 = .ok (.getfield 131, 3) := dgX12_cost_0.2.2.2.2.2.2.2.1
theorem dX12_cost_13 : decode cX12_cost 13 = .ok (.iload_n 2, 1) := dgX12_cost_0.2.2.2.2.2.2.2.2.1
theorem dX12_cost_14 : decode cX12_cost 14 = .ok (.iaload, 1) := dgX12_cost_0.2.2.2.2.2.2.2.2.2.1
theorem dX12_cost_15 : decode cX12_cost 15 = .ok (.bipush 100, 2) := dgX12_cost_0.2.2.2.2.2.2.2.2.2.2.1
theorem dX12_cost_17 : decode cX12_cost 17 = .ok (.idiv, 1) := dgX12_cost_0.2.2.2.2.2.2.2.2.2.2.2.1
theorem dgX12_cost_18 : (decode cX12_cost 18 = .ok (.if_icmp .lt 24, 3)) ∧ (decode cX12_cost 21 = .ok (.aload_n 0, 1)) ∧ (decode cX12_cost 22 = .ok (.getfield 125, 3)) ∧ (decode cX12_cost 25 = .ok (.iload_n 1, 1)) ∧ (decode cX12_cost 26 = .ok (.iaload, 1)) ∧ (decode cX12_cost 27 = .ok (.bipush 100, 2)) ∧ (decode cX12_cost 29 = .ok (.irem, 1)) ∧ (decode cX12_cost 30 = .ok (.aload_n 0, 1)) ∧ (decode cX12_cost 31 = .ok (.getfield 131, 3)) ∧ (decode cX12_cost 34 = .ok (.iload_n 2, 1)) ∧ (decode cX12_cost 35 = .ok (.iaload, 1)) ∧ (decode cX12_cost 36 = .ok (.bipush 100, 2)) ∧ True := dkW [(18, .if_icmp .lt 24, 3), (21, .aload_n 0, 1), (22, .getfield 125, 3), (25, .iload_n 1, 1), (26, .iaload, 1), (27, .bipush 100, 2), (29, .irem, 1), (30, .aload_n 0, 1), (31, .getfield 131, 3), (34, .iload_n 2, 1), (35, .iaload, 1), (36, .bipush 100, 2)] 18 (by decide +kernel)
theorem dX12_cost_18 : decode cX12_cost 18 = .ok (.if_icmp .lt 24, 3) := dgX12_cost_18.1
theorem dX12_cost_21 : decode cX12_cost 21 = .ok (.aload_n 0, 1) := dgX12_cost_18.2.1
theorem dX12_cost_22 : decode cX12_cost 22 = .ok (.getfield 125, 3) := dgX12_cost_18.2.2.1
theorem dX12_cost_25 : decode cX12_cost 25 = .ok (.iload_n 1, 1) := dgX12_cost_18.2.2.2.1
theorem dX12_cost_26 : decode cX12_cost 26 = .ok (.iaload, 1) := dgX12_cost_18.2.2.2.2.1
theorem dX12_cost_27 : decode cX12_cost 27 = .ok (.bipush 100, 2) := dgX12_cost_18.2.2.2.2.2.1
theorem dX12_cost_29 : decode cX12_cost 29 = .ok (.irem, 1) := dgX12_cost_18.2.2.2.2.2.2.1
theorem dX12_cost_30 : decode cX12_cost 30 = .ok (.aload_n 0, 1) := dgX12_cost_18.2.2.2.2.2.2.2.1
theorem dX12_cost_31 : decode cX12_cost 31 = .ok (.getfield 131, 3) := dgX12_cost_18.2.2.2.2.2.2.2.2.1
theorem dX12_cost_34 : decode cX12_cost 34 = .ok (.iload_n 2, 1) := dgX12_cost_18.2.2.2.2.2.2.2.2.2.1
theorem dX12_cost_35 : decode cX12_cost 35 = .ok (.iaload, 1) := dgX12_cost_18.2.2.2.2.2.2.2.2.2.2.1
theorem dX12_cost_36 : decode cX12_cost 36 = .ok (.bipush 100, 2) := dgX12_cost_18.2.2.2.2.2.2.2.2.2.2.2.1
theorem dgX12_cost_38 : (decode cX12_cost 38 = .ok (.irem, 1)) ∧ (decode cX12_cost 39 = .ok (.if_icmp .ge 5, 3)) ∧ True := dkW [(38, .irem, 1), (39, .if_icmp .ge 5, 3)] 38 (by decide +kernel)
theorem dX12_cost_38 : decode cX12_cost 38 = .ok (.irem, 1) := dgX12_cost_38.1
theorem dX12_cost_39 : decode cX12_cost 39 = .ok (.if_icmp .ge 5, 3) := dgX12_cost_38.2.1
theorem dX12_cost_42 : decode cX12_cost 42 = .ok (.iconst (-1), 1) := by decide +kernel
theorem dgX12_cost_43 : (decode cX12_cost 43 = .ok (.ireturn, 1)) ∧ (decode cX12_cost 44 = .ok (.aload_n 0, 1)) ∧ (decode cX12_cost 45 = .ok (.getfield 128, 3)) ∧ (decode cX12_cost 48 = .ok (.iload_n 1, 1)) ∧ (decode cX12_cost 49 = .ok (.iaload, 1)) ∧ (decode cX12_cost 50 = .ok (.aload_n 0, 1)) ∧ (decode cX12_cost 51 = .ok (.getfield 134, 3)) ∧ (decode cX12_cost 54 = .ok (.iload_n 2, 1)) ∧ (decode cX12_cost 55 = .ok (.iaload, 1)) ∧ (decode cX12_cost 56 = .ok (.if_icmp .ne 7, 3)) ∧ (decode cX12_cost 59 = .ok (.iconst 0, 1)) ∧ (decode cX12_cost 60 = .ok (.goto 12, 3)) ∧ True := dkW [(43, .ireturn, 1), (44, .aload_n 0, 1), (45, .getfield 128, 3), (48, .iload_n 1, 1), (49, .iaload, 1), (50, .aload_n 0, 1), (51, .getfield 134, 3), (54, .iload_n 2, 1), (55, .iaload, 1), (56, .if_icmp .ne 7, 3), (59, .iconst 0, 1), (60, .goto 12, 3)] 43 (by decide +kernel)
theorem dX12_cost_43 : decode cX12_cost 43 = .ok (.ireturn, 1) := dgX12_cost_43.1
theorem dX12_cost_44 : decode cX12_cost 44 = .ok (.aload_n 0, 1) := dgX12_cost_43.2.1
theorem dX12_cost_45 : decode cX12_cost 45 = .ok (.getfield 128, 3) := dgX12_cost_43.2.2.1
theorem dX12_cost_48 : decode cX12_cost 48 = .ok (.iload_n 1, 1) := dgX12_cost_43.2.2.2.1
theorem dX12_cost_49 : decode cX12_cost 49 = .ok (.iaload, 1) := dgX12_cost_43.2.2.2.2.1
theorem dX12_cost_50 : decode cX12_cost 50 = .ok (.aload_n 0, 1) := dgX12_cost_43.2.2.2.2.2.1
theorem dX12_cost_51 : decode cX12_cost 51 = .ok (.getfield 134, 3) := dgX12_cost_43.2.2.2.2.2.2.1
theorem dX12_cost_54 : decode cX12_cost 54 = .ok (.iload_n 2, 1) := dgX12_cost_43.2.2.2.2.2.2.2.1
theorem dX12_cost_55 : decode cX12_cost 55 = .ok (.iaload, 1) := dgX12_cost_43.2.2.2.2.2.2.2.2.1
theorem dX12_cost_56 : decode cX12_cost 56 = .ok (.if_icmp .ne 7, 3) := dgX12_cost_43.2.2.2.2.2.2.2.2.2.1
theorem dX12_cost_59 : decode cX12_cost 59 = .ok (.iconst 0, 1) := dgX12_cost_43.2.2.2.2.2.2.2.2.2.2.1
theorem dX12_cost_60 : decode cX12_cost 60 = .ok (.goto 12, 3) := dgX12_cost_43.2.2.2.2.2.2.2.2.2.2.2.1
theorem dgX12_cost_63 : (decode cX12_cost 63 = .ok (.aload_n 0, 1)) ∧ (decode cX12_cost 64 = .ok (.getfield 125, 3)) ∧ (decode cX12_cost 67 = .ok (.iload_n 1, 1)) ∧ (decode cX12_cost 68 = .ok (.iaload, 1)) ∧ (decode cX12_cost 69 = .ok (.invokestatic 296, 3)) ∧ (decode cX12_cost 72 = .ok (.aload_n 0, 1)) ∧ (decode cX12_cost 73 = .ok (.getfield 125, 3)) ∧ (decode cX12_cost 76 = .ok (.iload_n 1, 1)) ∧ (decode cX12_cost 77 = .ok (.iaload, 1)) ∧ (decode cX12_cost 78 = .ok (.invokestatic 296, 3)) ∧ (decode cX12_cost 81 = .ok (.iadd, 1)) ∧ (decode cX12_cost 82 = .ok (.aload_n 0, 1)) ∧ True := dkW [(63, .aload_n 0, 1), (64, .getfield 125, 3), (67, .iload_n 1, 1), (68, .iaload, 1), (69, .invokestatic 296, 3), (72, .aload_n 0, 1), (73, .getfield 125, 3), (76, .iload_n 1, 1), (77, .iaload, 1), (78, .invokestatic 296, 3), (81, .iadd, 1), (82, .aload_n 0, 1)] 63 (by decide +kernel)
theorem dX12_cost_63 : decode cX12_cost 63 = .ok (.aload_n 0, 1) := dgX12_cost_63.1
theorem dX12_cost_64 : decode cX12_cost 64 = .ok (.getfield 125, 3) := dgX12_cost_63.2.1
theorem dX12_cost_67 : decode cX12_cost 67 = .ok (.iload_n 1, 1) := dgX12_cost_63.2.2.1
theorem dX12_cost_68 : decode cX12_cost 68 = .ok (.iaload, 1) := dgX12_cost_63.2.2.2.1
theorem dX12_cost_69 : decode cX12_cost 69 = .ok (.invokestatic 296, 3) := dgX12_cost_63.2.2.2.2.1
theorem dX12_cost_72 : decode cX12_cost 72 = .ok (.aload_n 0, 1) := dgX12_cost_63.2.2.2.2.2.1
theorem dX12_cost_73 : decode cX12_cost 73 = .ok (.getfield 125, 3) := dgX12_cost_63.2.2.2.2.2.2.1
theorem dX12_cost_76 : decode cX12_cost 76 = .ok (.iload_n 1, 1) := dgX12_cost_63.2.2.2.2.2.2.2.1
theorem dX12_cost_77 : decode cX12_cost 77 = .ok (.iaload, 1) := dgX12_cost_63.2.2.2.2.2.2.2.2.1
theorem dX12_cost_78 : decode cX12_cost 78 = .ok (.invokestatic 296, 3) := dgX12_cost_63.2.2.2.2.2.2.2.2.2.1
theorem dX12_cost_81 : decode cX12_cost 81 = .ok (.iadd, 1) := dgX12_cost_63.2.2.2.2.2.2.2.2.2.2.1
theorem dX12_cost_82 : decode cX12_cost 82 = .ok (.aload_n 0, 1) := dgX12_cost_63.2.2.2.2.2.2.2.2.2.2.2.1
theorem dgX12_cost_83 : (decode cX12_cost 83 = .ok (.getfield 131, 3)) ∧ (decode cX12_cost 86 = .ok (.iload_n 2, 1)) ∧ (decode cX12_cost 87 = .ok (.iaload, 1)) ∧ (decode cX12_cost 88 = .ok (.invokestatic 296, 3)) ∧ (decode cX12_cost 91 = .ok (.isub, 1)) ∧ (decode cX12_cost 92 = .ok (.ireturn, 1)) ∧ True := dkW [(83, .getfield 131, 3), (86, .iload_n 2, 1), (87, .iaload, 1), (88, .invokestatic 296, 3), (91, .isub, 1), (92, .ireturn, 1)] 83 (by decide +kernel)
theorem dX12_cost_83 : decode cX12_cost 83 = .ok (.getfield 131, 3) := dgX12_cost_83.1
theorem dX12_cost_86 : decode cX12_cost 86 = .ok (.iload_n 2, 1) := dgX12_cost_83.2.1
theorem dX12_cost_87 : decode cX12_cost 87 = .ok (.iaload, 1) := dgX12_cost_83.2.2.1
theorem dX12_cost_88 : decode cX12_cost 88 = .ok (.invokestatic 296, 3) := dgX12_cost_83.2.2.2.1
theorem dX12_cost_91 : decode cX12_cost 91 = .ok (.isub, 1) := dgX12_cost_83.2.2.2.2.1
theorem dX12_cost_92 : decode cX12_cost 92 = .ok (.ireturn, 1) := dgX12_cost_83.2.2.2.2.2.1
abbrev rmX12_cost : Room := { frames := 1, cells := 0, slots := 0, locals := 20 }
noncomputable def fX12_cost_b42 (N : Nat)  (t : Nat) (h : Hs)  : Option (Int32 × Hs) :=
  some ((-1), h)
set_option maxHeartbeats 4000000 in
set_option maxRecDepth 20000 in
theorem wX12_cost_b42 {p : Program} {l : Launch} {e : Env} {s : State} {m : MethodId} {args : Array Value} {below : List Frame} {meth : Method} {c : Code} {G : Gl} {N : Nat} {h : Hs} {r : Int32 × Hs}  {t : Nat}  (C : Cx p s m args meth c cX12_cost RX12 3 G) (hret : meth.sig.returnType = (some .int))  (hf : fX12_cost_b42 N  t h  = some r) : V p l e rmX12_cost s m args below meth c G 3 (MQ below (QcG G (some (.inl r.1)) r.2) args s rmX12_cost.cells rmX12_cost.slots (AG G)) h 0 0 42 [some (.inr (some t)), none, none] [] := by
  unfold fX12_cost_b42 at hf
  refine r_iconst (v := -1) C dX12_cost_42 (by decide) ?_
  exact r_iretF C dX12_cost_43 hret hf (by decide) (by decide)
noncomputable def fX12_cost_b72 (N : Nat)  (t : Nat) (h : Hs) (x1 : Int32) (x2 : Int32) (u0 : Int32) : Option (Int32 × Hs) :=
  (oR 12 57 h (some t)).bind fun o1 =>
  (lA 20 h o1 x1).bind fun v2 =>
  (fX12_area N h v2).bind fun r3 =>
  (oR 12 60 r3.2 (some t)).bind fun o4 =>
  (lA 20 r3.2 o4 x2).bind fun v5 =>
  (fX12_area N r3.2 v5).bind fun r6 =>
  some ((u0 + r3.1) - r6.1, r6.2)
set_option maxHeartbeats 4000000 in
set_option maxRecDepth 20000 in
theorem wX12_cost_b72 {p : Program} {l : Launch} {e : Env} {s : State} {m : MethodId} {args : Array Value} {below : List Frame} {meth : Method} {c : Code} {G : Gl} {N : Nat} {h : Hs} {r : Int32 × Hs}  {t : Nat} {x1 : Int32} {x2 : Int32} {u0 : Int32} (C : Cx p s m args meth c cX12_cost RX12 3 G) (hret : meth.sig.returnType = (some .int))  (hf : fX12_cost_b72 N  t h x1 x2 u0 = some r) : V p l e rmX12_cost s m args below meth c G 3 (MQ below (QcG G (some (.inl r.1)) r.2) args s rmX12_cost.cells rmX12_cost.slots (AG G)) h 0 0 72 [some (.inr (some t)), some (.inl x1), some (.inl x2)] [.inl u0] := by
  unfold fX12_cost_b72 at hf
  refine r_aload_n C dX12_cost_72 rfl ?_
  obtain ⟨o1, eo1, hf⟩ := bS hf
  refine r_getR C dX12_cost_73 fl_X12_125 rfl eo1 ?_
  refine r_iload_n C dX12_cost_76 rfl ?_
  obtain ⟨v2, ev2, hf⟩ := bS hf
  refine r_iald C dX12_cost_77 ev2 ?_
  obtain ⟨r3, er3, hf⟩ := bS hf
  refine r_invS1 (As := [.inl v2]) C dX12_cost_78 mcX12_area wd_1408 wd_1409 ⟨by decide, by decide⟩ ⟨by decide, by decide⟩ rfl (Nat.le_of_ble_eq_true rfl) (kX12_area l G er3) ?_
  refine r_iadd C dX12_cost_81 ?_
  refine r_aload_n C dX12_cost_82 rfl ?_
  obtain ⟨o4, eo4, hf⟩ := bS hf
  refine r_getR C dX12_cost_83 fl_X12_131 rfl eo4 ?_
  refine r_iload_n C dX12_cost_86 rfl ?_
  obtain ⟨v5, ev5, hf⟩ := bS hf
  refine r_iald C dX12_cost_87 ev5 ?_
  obtain ⟨r6, er6, hf⟩ := bS hf
  refine r_invS1 (As := [.inl v5]) C dX12_cost_88 mcX12_area wd_1408 wd_1409 ⟨by decide, by decide⟩ ⟨by decide, by decide⟩ rfl (Nat.le_of_ble_eq_true rfl) (kX12_area l G er6) ?_
  refine r_isub C dX12_cost_91 ?_
  exact r_iretF C dX12_cost_92 hret hf (by decide) (by decide)
noncomputable def fX12_cost (N : Nat) (h : Hs) (t : Nat) (p1 : Int32) (p2 : Int32) : Option (Int32 × Hs) :=
  (oR 12 57 h (some t)).bind fun o1 =>
  (lA 20 h o1 p1).bind fun v2 =>
  (oR 12 60 h (some t)).bind fun o3 =>
  (lA 20 h o3 p2).bind fun v4 =>
  if (v2 / 100) < (v4 / 100) then (
  fX12_cost_b42 N t h)
  else (oR 12 57 h (some t)).bind fun o5 =>
  (lA 20 h o5 p1).bind fun v6 =>
  (oR 12 60 h (some t)).bind fun o7 =>
  (lA 20 h o7 p2).bind fun v8 =>
  if (v8 - v8 / 100 * 100) ≤ (v6 - v6 / 100 * 100) then (
  (oR 12 58 h (some t)).bind fun o9 =>
  (lA 20 h o9 p1).bind fun v10 =>
  (oR 12 61 h (some t)).bind fun o11 =>
  (lA 20 h o11 p2).bind fun v12 =>
  if v10 = v12 then (
  fX12_cost_b72 N t h p1 p2 0)
  else (oR 12 57 h (some t)).bind fun o13 =>
  (lA 20 h o13 p1).bind fun v14 =>
  (fX12_area N h v14).bind fun r15 =>
  fX12_cost_b72 N t r15.2 p1 p2 r15.1)
  else fX12_cost_b42 N t h
set_option maxHeartbeats 4000000 in
set_option maxRecDepth 20000 in
theorem kX12_cost (l : Launch) (G : Gl) {N : Nat} {h : Hs} {t : Nat} {p1 : Int32} {p2 : Int32} {r : Int32 × Hs} (hf : fX12_cost N h t p1 p2 = some r) : CT l G yX12_cost cX12_cost 3 (some .int) rmX12_cost [.inr (some t), .inl p1, .inl p2] h (some (.inl r.1)) r.2 := by
  refine mk_CT (by decide) (Nat.le_of_ble_eq_true rfl) ?_
  intro p e s m args below meth c C hret hin
  unfold fX12_cost at hf
  refine r_aload_n C dX12_cost_0 rfl ?_
  obtain ⟨o1, eo1, hf⟩ := bS hf
  refine r_getR C dX12_cost_1 fl_X12_125 rfl eo1 ?_
  refine r_iload_n C dX12_cost_4 rfl ?_
  obtain ⟨v2, ev2, hf⟩ := bS hf
  refine r_iald C dX12_cost_5 ev2 ?_
  refine r_bipush (v := 100) C dX12_cost_6 (by decide) ?_
  refine r_idivK C dX12_cost_8 (by decide) ?_
  refine r_aload_n C dX12_cost_9 rfl ?_
  obtain ⟨o3, eo3, hf⟩ := bS hf
  refine r_getR C dX12_cost_10 fl_X12_131 rfl eo3 ?_
  refine r_iload_n C dX12_cost_13 rfl ?_
  obtain ⟨v4, ev4, hf⟩ := bS hf
  refine r_iald C dX12_cost_14 ev4 ?_
  refine r_bipush (v := 100) C dX12_cost_15 (by decide) ?_
  refine r_idivK C dX12_cost_17 (by decide) ?_
  refine r_icmp_lt (tgt := 42) C dX12_cost_18 (by decide) (fun hc => ?_) (fun hc => ?_)
  · have hf := ifT hf hc
    exact V.sub (wX12_cost_b42 C hret hf) (LW_s rfl (LW_n (LW_n (LW_e))))
  · have hf := ifF hf hc
    refine r_aload_n C dX12_cost_21 rfl ?_
    obtain ⟨o5, eo5, hf⟩ := bS hf
    refine r_getR C dX12_cost_22 fl_X12_125 rfl eo5 ?_
    refine r_iload_n C dX12_cost_25 rfl ?_
    obtain ⟨v6, ev6, hf⟩ := bS hf
    refine r_iald C dX12_cost_26 ev6 ?_
    refine r_bipush (v := 100) C dX12_cost_27 (by decide) ?_
    refine r_iremK C dX12_cost_29 (by decide) ?_
    refine r_aload_n C dX12_cost_30 rfl ?_
    obtain ⟨o7, eo7, hf⟩ := bS hf
    refine r_getR C dX12_cost_31 fl_X12_131 rfl eo7 ?_
    refine r_iload_n C dX12_cost_34 rfl ?_
    obtain ⟨v8, ev8, hf⟩ := bS hf
    refine r_iald C dX12_cost_35 ev8 ?_
    refine r_bipush (v := 100) C dX12_cost_36 (by decide) ?_
    refine r_iremK C dX12_cost_38 (by decide) ?_
    refine r_icmp_ge (tgt := 44) C dX12_cost_39 (by decide) (fun hc => ?_) (fun hc => ?_)
    · have hf := ifT hf hc
      refine r_aload_n C dX12_cost_44 rfl ?_
      obtain ⟨o9, eo9, hf⟩ := bS hf
      refine r_getR C dX12_cost_45 fl_X12_128 rfl eo9 ?_
      refine r_iload_n C dX12_cost_48 rfl ?_
      obtain ⟨v10, ev10, hf⟩ := bS hf
      refine r_iald C dX12_cost_49 ev10 ?_
      refine r_aload_n C dX12_cost_50 rfl ?_
      obtain ⟨o11, eo11, hf⟩ := bS hf
      refine r_getR C dX12_cost_51 fl_X12_134 rfl eo11 ?_
      refine r_iload_n C dX12_cost_54 rfl ?_
      obtain ⟨v12, ev12, hf⟩ := bS hf
      refine r_iald C dX12_cost_55 ev12 ?_
      refine r_icmp_ne (tgt := 63) C dX12_cost_56 (by decide) (fun hc => ?_) (fun hc => ?_)
      · have hf := ifF hf hc
        refine r_aload_n C dX12_cost_63 rfl ?_
        obtain ⟨o13, eo13, hf⟩ := bS hf
        refine r_getR C dX12_cost_64 fl_X12_125 rfl eo13 ?_
        refine r_iload_n C dX12_cost_67 rfl ?_
        obtain ⟨v14, ev14, hf⟩ := bS hf
        refine r_iald C dX12_cost_68 ev14 ?_
        obtain ⟨r15, er15, hf⟩ := bS hf
        refine r_invS1 (As := [.inl v14]) C dX12_cost_69 mcX12_area wd_1408 wd_1409 ⟨by decide, by decide⟩ ⟨by decide, by decide⟩ rfl (Nat.le_of_ble_eq_true rfl) (kX12_area l G er15) ?_
        exact V.sub (wX12_cost_b72 C hret hf) (LW_s rfl (LW_s rfl (LW_s rfl (LW_e))))
      · have hf := ifT hf hc
        refine r_iconst (v := 0) C dX12_cost_59 (by decide) ?_
        refine r_goto (tgt := 72) C dX12_cost_60 (by decide) ?_
        exact V.sub (wX12_cost_b72 C hret hf) (LW_s rfl (LW_s rfl (LW_s rfl (LW_e))))
    · have hf := ifF hf hc
      exact V.sub (wX12_cost_b42 C hret hf) (LW_s rfl (LW_n (LW_n (LW_e))))

theorem dgX12_isTaken_0 : (decode cX12_isTaken 0 = .ok (.iconst 0, 1)) ∧ (decode cX12_isTaken 1 = .ok (.istore_n 2, 1)) ∧ (decode cX12_isTaken 2 = .ok (.iload_n 2, 1)) ∧ (decode cX12_isTaken 3 = .ok (.iload_n 1, 1)) ∧ (decode cX12_isTaken 4 = .ok (.if_icmp .ge 26, 3)) ∧ (decode cX12_isTaken 7 = .ok (.aload_n 0, 1)) ∧ (decode cX12_isTaken 8 = .ok (.getfield 137, 3)) ∧ (decode cX12_isTaken 11 = .ok (.iload_n 2, 1)) ∧ (decode cX12_isTaken 12 = .ok (.iaload, 1)) ∧ (decode cX12_isTaken 13 = .ok (.aload_n 0, 1)) ∧ (decode cX12_isTaken 14 = .ok (.getfield 137, 3)) ∧ (decode cX12_isTaken 17 = .ok (.iload_n 1, 1)) ∧ True := dkW [(0, .iconst 0, 1), (1, .istore_n 2, 1), (2, .iload_n 2, 1), (3, .iload_n 1, 1), (4, .if_icmp .ge 26, 3), (7, .aload_n 0, 1), (8, .getfield 137, 3), (11, .iload_n 2, 1), (12, .iaload, 1), (13, .aload_n 0, 1), (14, .getfield 137, 3), (17, .iload_n 1, 1)] 0 (by decide +kernel)
theorem dX12_isTaken_0 : decode cX12_isTaken 0 = .ok (.iconst 0, 1) := dgX12_isTaken_0.1
theorem dX12_isTaken_1 : decode cX12_isTaken 1 = .ok (.istore_n 2, 1) := dgX12_isTaken_0.2.1
theorem dX12_isTaken_2 : decode cX12_isTaken 2 = .ok (.iload_n 2, 1) := dgX12_isTaken_0.2.2.1
theorem dX12_isTaken_3 : decode cX12_isTaken 3 = .ok (.iload_n 1, 1) := dgX12_isTaken_0.2.2.2.1
theorem dX12_isTaken_4 : decode cX12_isTaken 4 = .ok (.if_icmp .ge 26, 3) := dgX12_isTaken_0.2.2.2.2.1
theorem dX12_isTaken_7 : decode cX12_isTaken 7 = .ok (.aload_n 0, 1) := dgX12_isTaken_0.2.2.2.2.2.1
theorem dX12_isTaken_8 : decode cX12_isTaken 8 = .ok (.getfield 137, 3) := dgX12_isTaken_0.2.2.2.2.2.2.1
theorem dX12_isTaken_11 : decode cX12_isTaken 11 = .ok (.iload_n 2, 1) := dgX12_isTaken_0.2.2.2.2.2.2.2.1
theorem dX12_isTaken_12 : decode cX12_isTaken 12 = .ok (.iaload, 1) := dgX12_isTaken_0.2.2.2.2.2.2.2.2.1
theorem dX12_isTaken_13 : decode cX12_isTaken 13 = .ok (.aload_n 0, 1) := dgX12_isTaken_0.2.2.2.2.2.2.2.2.2.1
theorem dX12_isTaken_14 : decode cX12_isTaken 14 = .ok (.getfield 137, 3) := dgX12_isTaken_0.2.2.2.2.2.2.2.2.2.2.1
theorem dX12_isTaken_17 : decode cX12_isTaken 17 = .ok (.iload_n 1, 1) := dgX12_isTaken_0.2.2.2.2.2.2.2.2.2.2.2.1
theorem dgX12_isTaken_18 : (decode cX12_isTaken 18 = .ok (.iaload, 1)) ∧ (decode cX12_isTaken 19 = .ok (.if_icmp .ne 5, 3)) ∧ (decode cX12_isTaken 22 = .ok (.iconst 1, 1)) ∧ (decode cX12_isTaken 23 = .ok (.ireturn, 1)) ∧ (decode cX12_isTaken 24 = .ok (.iinc 2 1, 3)) ∧ (decode cX12_isTaken 27 = .ok (.goto (-25), 3)) ∧ (decode cX12_isTaken 30 = .ok (.iconst 0, 1)) ∧ (decode cX12_isTaken 31 = .ok (.ireturn, 1)) ∧ True := dkW [(18, .iaload, 1), (19, .if_icmp .ne 5, 3), (22, .iconst 1, 1), (23, .ireturn, 1), (24, .iinc 2 1, 3), (27, .goto (-25), 3), (30, .iconst 0, 1), (31, .ireturn, 1)] 18 (by decide +kernel)
theorem dX12_isTaken_18 : decode cX12_isTaken 18 = .ok (.iaload, 1) := dgX12_isTaken_18.1
theorem dX12_isTaken_19 : decode cX12_isTaken 19 = .ok (.if_icmp .ne 5, 3) := dgX12_isTaken_18.2.1
theorem dX12_isTaken_22 : decode cX12_isTaken 22 = .ok (.iconst 1, 1) := dgX12_isTaken_18.2.2.1
theorem dX12_isTaken_23 : decode cX12_isTaken 23 = .ok (.ireturn, 1) := dgX12_isTaken_18.2.2.2.1
theorem dX12_isTaken_24 : decode cX12_isTaken 24 = .ok (.iinc 2 1, 3) := dgX12_isTaken_18.2.2.2.2.1
theorem dX12_isTaken_27 : decode cX12_isTaken 27 = .ok (.goto (-25), 3) := dgX12_isTaken_18.2.2.2.2.2.1
theorem dX12_isTaken_30 : decode cX12_isTaken 30 = .ok (.iconst 0, 1) := dgX12_isTaken_18.2.2.2.2.2.2.1
theorem dX12_isTaken_31 : decode cX12_isTaken 31 = .ok (.ireturn, 1) := dgX12_isTaken_18.2.2.2.2.2.2.2.1
abbrev rmX12_isTaken : Room := { frames := 0, cells := 0, slots := 0, locals := 0 }
noncomputable def fX12_isTaken_b2_body (N : Nat)  (g2 : Hs → Int32 → Int32 → Option (Int32 × Hs)) (t : Nat) (h : Hs) (x1 : Int32) (x2 : Int32) : Option (Int32 × Hs) :=
  if x1 ≤ x2 then (
  some (0, h))
  else (oR 12 62 h (some t)).bind fun o1 =>
  (lA 20 h o1 x2).bind fun v2 =>
  (oR 12 62 h (some t)).bind fun o3 =>
  (lA 20 h o3 x1).bind fun v4 =>
  if v2 = v4 then (
  some (1, h))
  else (some (x2 + 1)).bind fun y5 =>
  g2 h x1 y5
noncomputable def fX12_isTaken_b2 (N : Nat)  (t : Nat) (n : Nat) : Hs → Int32 → Int32 → Option (Int32 × Hs) := lp (fun _ _ _ => none) (fun g h x1 x2 => fX12_isTaken_b2_body N  g t h x1 x2) n
set_option maxHeartbeats 4000000 in
set_option maxRecDepth 20000 in
theorem wX12_isTaken_b2_body {p : Program} {l : Launch} {e : Env} {s : State} {m : MethodId} {args : Array Value} {below : List Frame} {meth : Method} {c : Code} {G : Gl} {N : Nat} {h : Hs} {r : Int32 × Hs}  {g2 : Hs → Int32 → Int32 → Option (Int32 × Hs)} {t : Nat} {x1 : Int32} {x2 : Int32} (C : Cx p s m args meth c cX12_isTaken RX12 3 G) (hret : meth.sig.returnType = (some .boolean))  (hg2 : ∀ (h : Hs) (x1 : Int32) (x2 : Int32), g2 h x1 x2 = some r → V p l e rmX12_isTaken s m args below meth c G 3 (MQ below (QcG G (some (.inl r.1)) r.2) args s rmX12_isTaken.cells rmX12_isTaken.slots (AG G)) h 0 0 2 [some (.inr (some t)), some (.inl x1), some (.inl x2)] []) (hf : fX12_isTaken_b2_body N  g2 t h x1 x2 = some r) : V p l e rmX12_isTaken s m args below meth c G 3 (MQ below (QcG G (some (.inl r.1)) r.2) args s rmX12_isTaken.cells rmX12_isTaken.slots (AG G)) h 0 0 2 [some (.inr (some t)), some (.inl x1), some (.inl x2)] [] := by
  unfold fX12_isTaken_b2_body at hf
  refine r_iload_n C dX12_isTaken_2 rfl ?_
  refine r_iload_n C dX12_isTaken_3 rfl ?_
  refine r_icmp_ge (tgt := 30) C dX12_isTaken_4 (by decide) (fun hc => ?_) (fun hc => ?_)
  · have hf := ifT hf hc
    refine r_iconst (v := 0) C dX12_isTaken_30 (by decide) ?_
    exact r_zretF C dX12_isTaken_31 hret (z := 0) rfl hf (by decide) (by decide)
  · have hf := ifF hf hc
    refine r_aload_n C dX12_isTaken_7 rfl ?_
    obtain ⟨o1, eo1, hf⟩ := bS hf
    refine r_getR C dX12_isTaken_8 fl_X12_137 rfl eo1 ?_
    refine r_iload_n C dX12_isTaken_11 rfl ?_
    obtain ⟨v2, ev2, hf⟩ := bS hf
    refine r_iald C dX12_isTaken_12 ev2 ?_
    refine r_aload_n C dX12_isTaken_13 rfl ?_
    obtain ⟨o3, eo3, hf⟩ := bS hf
    refine r_getR C dX12_isTaken_14 fl_X12_137 rfl eo3 ?_
    refine r_iload_n C dX12_isTaken_17 rfl ?_
    obtain ⟨v4, ev4, hf⟩ := bS hf
    refine r_iald C dX12_isTaken_18 ev4 ?_
    refine r_icmp_ne (tgt := 24) C dX12_isTaken_19 (by decide) (fun hc => ?_) (fun hc => ?_)
    · have hf := ifF hf hc
      obtain ⟨y5, ey5, hf⟩ := bS hf
      refine r_iincE (v := 1) C dX12_isTaken_24 rfl (by decide) (by decide) ey5 ?_
      refine r_goto (tgt := 2) C dX12_isTaken_27 (by decide) ?_
      exact V.sub (hg2 _ _ _ hf) (LW_s rfl (LW_s rfl (LW_s rfl (LW_e))))
    · have hf := ifT hf hc
      refine r_iconst (v := 1) C dX12_isTaken_22 (by decide) ?_
      exact r_zretF C dX12_isTaken_23 hret (z := 1) rfl hf (by decide) (by decide)
theorem wX12_isTaken_b2 {p : Program} {l : Launch} {e : Env} {s : State} {m : MethodId} {args : Array Value} {below : List Frame} {meth : Method} {c : Code} {G : Gl} {N : Nat} {r : Int32 × Hs}  {t : Nat} (C : Cx p s m args meth c cX12_isTaken RX12 3 G) (hret : meth.sig.returnType = (some .boolean))  : ∀ (n : Nat) (h : Hs) (x1 : Int32) (x2 : Int32), fX12_isTaken_b2 N  t n h x1 x2 = some r → V p l e rmX12_isTaken s m args below meth c G 3 (MQ below (QcG G (some (.inl r.1)) r.2) args s rmX12_isTaken.cells rmX12_isTaken.slots (AG G)) h 0 0 2 [some (.inr (some t)), some (.inl x1), some (.inl x2)] [] := by
  intro n
  induction n with
  | zero => intro h x1 x2 hf; exact absurd (show (none : Option (Int32 × Hs)) = some r from hf) (fun q => by cases q)
  | succ n ih => intro h x1 x2 hf; exact wX12_isTaken_b2_body C hret  ih (show fX12_isTaken_b2_body N  (fX12_isTaken_b2 N  t n) t h x1 x2 = some r from hf)
noncomputable def fX12_isTaken (N : Nat) (h : Hs) (t : Nat) (p1 : Int32) : Option (Int32 × Hs) :=
  fX12_isTaken_b2 N t N h p1 0
set_option maxHeartbeats 4000000 in
set_option maxRecDepth 20000 in
theorem kX12_isTaken (l : Launch) (G : Gl) {N : Nat} {h : Hs} {t : Nat} {p1 : Int32} {r : Int32 × Hs} (hf : fX12_isTaken N h t p1 = some r) : CT l G yX12_isTaken cX12_isTaken 3 (some .boolean) rmX12_isTaken [.inr (some t), .inl p1] h (some (.inl r.1)) r.2 := by
  refine mk_CT (by decide) (Nat.le_of_ble_eq_true rfl) ?_
  intro p e s m args below meth c C hret hin
  unfold fX12_isTaken at hf
  refine r_iconst (v := 0) C dX12_isTaken_0 (by decide) ?_
  refine r_istore_n C dX12_isTaken_1 (by decide) ?_
  exact V.sub (wX12_isTaken_b2 C hret N _ _ _ hf) (LW_s rfl (LW_s rfl (LW_s rfl (LW_e))))

theorem dgX12_costTo_0 : (decode cX12_costTo 0 = .ok (.iconst 0, 1)) ∧ (decode cX12_costTo 1 = .ok (.istore_n 2, 1)) ∧ (decode cX12_costTo 2 = .ok (.iconst 0, 1)) ∧ (decode cX12_costTo 3 = .ok (.istore_n 3, 1)) ∧ (decode cX12_costTo 4 = .ok (.iload_n 3, 1)) ∧ (decode cX12_costTo 5 = .ok (.iload_n 1, 1)) ∧ (decode cX12_costTo 6 = .ok (.if_icmp .ge 23, 3)) ∧ (decode cX12_costTo 9 = .ok (.iload_n 2, 1)) ∧ (decode cX12_costTo 10 = .ok (.aload_n 0, 1)) ∧ (decode cX12_costTo 11 = .ok (.aload_n 0, 1)) ∧ (decode cX12_costTo 12 = .ok (.getfield 137, 3)) ∧ (decode cX12_costTo 15 = .ok (.iload_n 3, 1)) ∧ True := dkW [(0, .iconst 0, 1), (1, .istore_n 2, 1), (2, .iconst 0, 1), (3, .istore_n 3, 1), (4, .iload_n 3, 1), (5, .iload_n 1, 1), (6, .if_icmp .ge 23, 3), (9, .iload_n 2, 1), (10, .aload_n 0, 1), (11, .aload_n 0, 1), (12, .getfield 137, 3), (15, .iload_n 3, 1)] 0 (by decide +kernel)
theorem dX12_costTo_0 : decode cX12_costTo 0 = .ok (.iconst 0, 1) := dgX12_costTo_0.1
theorem dX12_costTo_1 : decode cX12_costTo 1 = .ok (.istore_n 2, 1) := dgX12_costTo_0.2.1
theorem dX12_costTo_2 : decode cX12_costTo 2 = .ok (.iconst 0, 1) := dgX12_costTo_0.2.2.1
theorem dX12_costTo_3 : decode cX12_costTo 3 = .ok (.istore_n 3, 1) := dgX12_costTo_0.2.2.2.1
theorem dX12_costTo_4 : decode cX12_costTo 4 = .ok (.iload_n 3, 1) := dgX12_costTo_0.2.2.2.2.1
theorem dX12_costTo_5 : decode cX12_costTo 5 = .ok (.iload_n 1, 1) := dgX12_costTo_0.2.2.2.2.2.1
theorem dX12_costTo_6 : decode cX12_costTo 6 = .ok (.if_icmp .ge 23, 3) := dgX12_costTo_0.2.2.2.2.2.2.1
theorem dX12_costTo_9 : decode cX12_costTo 9 = .ok (.iload_n 2, 1) := dgX12_costTo_0.2.2.2.2.2.2.2.1
theorem dX12_costTo_10 : decode cX12_costTo 10 = .ok (.aload_n 0, 1) := dgX12_costTo_0.2.2.2.2.2.2.2.2.1
theorem dX12_costTo_11 : decode cX12_costTo 11 = .ok (.aload_n 0, 1) := dgX12_costTo_0.2.2.2.2.2.2.2.2.2.1
theorem dX12_costTo_12 : decode cX12_costTo 12 = .ok (.getfield 137, 3) := dgX12_costTo_0.2.2.2.2.2.2.2.2.2.2.1
theorem dX12_costTo_15 : decode cX12_costTo 15 = .ok (.iload_n 3, 1) := dgX12_costTo_0.2.2.2.2.2.2.2.2.2.2.2.1
theorem dgX12_costTo_16 : (decode cX12_costTo 16 = .ok (.iaload, 1)) ∧ (decode cX12_costTo 17 = .ok (.iload_n 3, 1)) ∧ (decode cX12_costTo 18 = .ok (.invokevirtual 299, 3)) ∧ (decode cX12_costTo 21 = .ok (.iadd, 1)) ∧ (decode cX12_costTo 22 = .ok (.istore_n 2, 1)) ∧ (decode cX12_costTo 23 = .ok (.iinc 3 1, 3)) ∧ (decode cX12_costTo 26 = .ok (.goto (-22), 3)) ∧ (decode cX12_costTo 29 = .ok (.iload_n 2, 1)) ∧ (decode cX12_costTo 30 = .ok (.ireturn, 1)) ∧ True := dkW [(16, .iaload, 1), (17, .iload_n 3, 1), (18, .invokevirtual 299, 3), (21, .iadd, 1), (22, .istore_n 2, 1), (23, .iinc 3 1, 3), (26, .goto (-22), 3), (29, .iload_n 2, 1), (30, .ireturn, 1)] 16 (by decide +kernel)
theorem dX12_costTo_16 : decode cX12_costTo 16 = .ok (.iaload, 1) := dgX12_costTo_16.1
theorem dX12_costTo_17 : decode cX12_costTo 17 = .ok (.iload_n 3, 1) := dgX12_costTo_16.2.1
theorem dX12_costTo_18 : decode cX12_costTo 18 = .ok (.invokevirtual 299, 3) := dgX12_costTo_16.2.2.1
theorem dX12_costTo_21 : decode cX12_costTo 21 = .ok (.iadd, 1) := dgX12_costTo_16.2.2.2.1
theorem dX12_costTo_22 : decode cX12_costTo 22 = .ok (.istore_n 2, 1) := dgX12_costTo_16.2.2.2.2.1
theorem dX12_costTo_23 : decode cX12_costTo 23 = .ok (.iinc 3 1, 3) := dgX12_costTo_16.2.2.2.2.2.1
theorem dX12_costTo_26 : decode cX12_costTo 26 = .ok (.goto (-22), 3) := dgX12_costTo_16.2.2.2.2.2.2.1
theorem dX12_costTo_29 : decode cX12_costTo 29 = .ok (.iload_n 2, 1) := dgX12_costTo_16.2.2.2.2.2.2.2.1
theorem dX12_costTo_30 : decode cX12_costTo 30 = .ok (.ireturn, 1) := dgX12_costTo_16.2.2.2.2.2.2.2.2.1
abbrev rmX12_costTo : Room := { frames := 2, cells := 0, slots := 0, locals := 42 }
noncomputable def fX12_costTo_b4_body (N : Nat)  (g4 : Hs → Int32 → Int32 → Int32 → Option (Int32 × Hs)) (t : Nat) (h : Hs) (x1 : Int32) (x2 : Int32) (x3 : Int32) : Option (Int32 × Hs) :=
  if x1 ≤ x3 then (
  some (x2, h))
  else (oR 12 62 h (some t)).bind fun o1 =>
  (lA 20 h o1 x3).bind fun v2 =>
  (rc 12 h (some t)).bind fun a4 =>
  (fX12_cost N h a4 v2 x3).bind fun r3 =>
  (some (x2 + r3.1)).bind fun y5 =>
  (some (x3 + 1)).bind fun y6 =>
  g4 r3.2 x1 y5 y6
noncomputable def fX12_costTo_b4 (N : Nat)  (t : Nat) (n : Nat) : Hs → Int32 → Int32 → Int32 → Option (Int32 × Hs) := lp (fun _ _ _ _ => none) (fun g h x1 x2 x3 => fX12_costTo_b4_body N  g t h x1 x2 x3) n
set_option maxHeartbeats 4000000 in
set_option maxRecDepth 20000 in
theorem wX12_costTo_b4_body {p : Program} {l : Launch} {e : Env} {s : State} {m : MethodId} {args : Array Value} {below : List Frame} {meth : Method} {c : Code} {G : Gl} {N : Nat} {h : Hs} {r : Int32 × Hs}  {g4 : Hs → Int32 → Int32 → Int32 → Option (Int32 × Hs)} {t : Nat} {x1 : Int32} {x2 : Int32} {x3 : Int32} (C : Cx p s m args meth c cX12_costTo RX12 4 G) (hret : meth.sig.returnType = (some .int))  (hg4 : ∀ (h : Hs) (x1 : Int32) (x2 : Int32) (x3 : Int32), g4 h x1 x2 x3 = some r → V p l e rmX12_costTo s m args below meth c G 4 (MQ below (QcG G (some (.inl r.1)) r.2) args s rmX12_costTo.cells rmX12_costTo.slots (AG G)) h 0 0 4 [some (.inr (some t)), some (.inl x1), some (.inl x2), some (.inl x3)] []) (hf : fX12_costTo_b4_body N  g4 t h x1 x2 x3 = some r) : V p l e rmX12_costTo s m args below meth c G 4 (MQ below (QcG G (some (.inl r.1)) r.2) args s rmX12_costTo.cells rmX12_costTo.slots (AG G)) h 0 0 4 [some (.inr (some t)), some (.inl x1), some (.inl x2), some (.inl x3)] [] := by
  unfold fX12_costTo_b4_body at hf
  refine r_iload_n C dX12_costTo_4 rfl ?_
  refine r_iload_n C dX12_costTo_5 rfl ?_
  refine r_icmp_ge (tgt := 29) C dX12_costTo_6 (by decide) (fun hc => ?_) (fun hc => ?_)
  · have hf := ifT hf hc
    refine r_iload_n C dX12_costTo_29 rfl ?_
    exact r_iretF C dX12_costTo_30 hret hf (by decide) (by decide)
  · have hf := ifF hf hc
    refine r_iload_n C dX12_costTo_9 rfl ?_
    refine r_aload_n C dX12_costTo_10 rfl ?_
    refine r_aload_n C dX12_costTo_11 rfl ?_
    obtain ⟨o1, eo1, hf⟩ := bS hf
    refine r_getR C dX12_costTo_12 fl_X12_137 rfl eo1 ?_
    refine r_iload_n C dX12_costTo_15 rfl ?_
    obtain ⟨v2, ev2, hf⟩ := bS hf
    refine r_iald C dX12_costTo_16 ev2 ?_
    refine r_iload_n C dX12_costTo_17 rfl ?_
    obtain ⟨a4, ea4, hf⟩ := bS hf
    obtain ⟨r3, er3, hf⟩ := bS hf
    refine r_invV1 (As := [.inl v2, .inl x3]) (ci := 12) C dX12_costTo_18 mcX12_cost wd_1404 wd_1406 wp_53 rfl rfl (by decide) ⟨by decide, by decide⟩ ⟨by decide, by decide⟩ rfl (Nat.le_of_ble_eq_true rfl) ea4 (kX12_cost l G er3) ?_
    refine r_iadd C dX12_costTo_21 ?_
    obtain ⟨y5, ey5, hf⟩ := bS hf
    refine r_istore_nE C dX12_costTo_22 (by decide) ey5 ?_
    obtain ⟨y6, ey6, hf⟩ := bS hf
    refine r_iincE (v := 1) C dX12_costTo_23 rfl (by decide) (by decide) ey6 ?_
    refine r_goto (tgt := 4) C dX12_costTo_26 (by decide) ?_
    exact V.sub (hg4 _ _ _ _ hf) (LW_s rfl (LW_s rfl (LW_s rfl (LW_s rfl (LW_e)))))
theorem wX12_costTo_b4 {p : Program} {l : Launch} {e : Env} {s : State} {m : MethodId} {args : Array Value} {below : List Frame} {meth : Method} {c : Code} {G : Gl} {N : Nat} {r : Int32 × Hs}  {t : Nat} (C : Cx p s m args meth c cX12_costTo RX12 4 G) (hret : meth.sig.returnType = (some .int))  : ∀ (n : Nat) (h : Hs) (x1 : Int32) (x2 : Int32) (x3 : Int32), fX12_costTo_b4 N  t n h x1 x2 x3 = some r → V p l e rmX12_costTo s m args below meth c G 4 (MQ below (QcG G (some (.inl r.1)) r.2) args s rmX12_costTo.cells rmX12_costTo.slots (AG G)) h 0 0 4 [some (.inr (some t)), some (.inl x1), some (.inl x2), some (.inl x3)] [] := by
  intro n
  induction n with
  | zero => intro h x1 x2 x3 hf; exact absurd (show (none : Option (Int32 × Hs)) = some r from hf) (fun q => by cases q)
  | succ n ih => intro h x1 x2 x3 hf; exact wX12_costTo_b4_body C hret  ih (show fX12_costTo_b4_body N  (fX12_costTo_b4 N  t n) t h x1 x2 x3 = some r from hf)
noncomputable def fX12_costTo (N : Nat) (h : Hs) (t : Nat) (p1 : Int32) : Option (Int32 × Hs) :=
  fX12_costTo_b4 N t N h p1 0 0
set_option maxHeartbeats 4000000 in
set_option maxRecDepth 20000 in
theorem kX12_costTo (l : Launch) (G : Gl) {N : Nat} {h : Hs} {t : Nat} {p1 : Int32} {r : Int32 × Hs} (hf : fX12_costTo N h t p1 = some r) : CT l G yX12_costTo cX12_costTo 4 (some .int) rmX12_costTo [.inr (some t), .inl p1] h (some (.inl r.1)) r.2 := by
  refine mk_CT (by decide) (Nat.le_of_ble_eq_true rfl) ?_
  intro p e s m args below meth c C hret hin
  unfold fX12_costTo at hf
  refine r_iconst (v := 0) C dX12_costTo_0 (by decide) ?_
  refine r_istore_n C dX12_costTo_1 (by decide) ?_
  refine r_iconst (v := 0) C dX12_costTo_2 (by decide) ?_
  refine r_istore_n C dX12_costTo_3 (by decide) ?_
  exact V.sub (wX12_costTo_b4 C hret N _ _ _ _ hf) (LW_s rfl (LW_s rfl (LW_s rfl (LW_s rfl (LW_e)))))

theorem dgX12_paint_0 : (decode cX12_paint 0 = .ok (.aload_n 0, 1)) ∧ (decode cX12_paint 1 = .ok (.getfield 293, 3)) ∧ (decode cX12_paint 4 = .ok (.istore_n 1, 1)) ∧ (decode cX12_paint 5 = .ok (.aload_n 0, 1)) ∧ (decode cX12_paint 6 = .ok (.iconst 0, 1)) ∧ (decode cX12_paint 7 = .ok (.putfield 293, 3)) ∧ True := dkW [(0, .aload_n 0, 1), (1, .getfield 293, 3), (4, .istore_n 1, 1), (5, .aload_n 0, 1), (6, .iconst 0, 1), (7, .putfield 293, 3)] 0 (by decide +kernel)
theorem dX12_paint_0 : decode cX12_paint 0 = .ok (.aload_n 0, 1) := dgX12_paint_0.1
theorem dX12_paint_1 : decode cX12_paint 1 = .ok (.getfield 293, 3) := dgX12_paint_0.2.1
theorem dX12_paint_4 : decode cX12_paint 4 = .ok (.istore_n 1, 1) := dgX12_paint_0.2.2.1
theorem dX12_paint_5 : decode cX12_paint 5 = .ok (.aload_n 0, 1) := dgX12_paint_0.2.2.2.1
theorem dX12_paint_6 : decode cX12_paint 6 = .ok (.iconst 0, 1) := dgX12_paint_0.2.2.2.2.1
theorem dX12_paint_7 : decode cX12_paint 7 = .ok (.putfield 293, 3) := dgX12_paint_0.2.2.2.2.2.1
theorem dX12_paint_10 : decode cX12_paint 10 = .ok (.iconst (-1), 1) := by decide +kernel
theorem dgX12_paint_11 : (decode cX12_paint 11 = .ok (.istore_n 2, 1)) ∧ (decode cX12_paint 12 = .ok (.iconst 0, 1)) ∧ (decode cX12_paint 13 = .ok (.istore_n 3, 1)) ∧ (decode cX12_paint 14 = .ok (.aload_n 0, 1)) ∧ (decode cX12_paint 15 = .ok (.getfield 137, 3)) ∧ (decode cX12_paint 18 = .ok (.iconst 0, 1)) ∧ True := dkW [(11, .istore_n 2, 1), (12, .iconst 0, 1), (13, .istore_n 3, 1), (14, .aload_n 0, 1), (15, .getfield 137, 3), (18, .iconst 0, 1)] 11 (by decide +kernel)
theorem dX12_paint_11 : decode cX12_paint 11 = .ok (.istore_n 2, 1) := dgX12_paint_11.1
theorem dX12_paint_12 : decode cX12_paint 12 = .ok (.iconst 0, 1) := dgX12_paint_11.2.1
theorem dX12_paint_13 : decode cX12_paint 13 = .ok (.istore_n 3, 1) := dgX12_paint_11.2.2.1
theorem dX12_paint_14 : decode cX12_paint 14 = .ok (.aload_n 0, 1) := dgX12_paint_11.2.2.2.1
theorem dX12_paint_15 : decode cX12_paint 15 = .ok (.getfield 137, 3) := dgX12_paint_11.2.2.2.2.1
theorem dX12_paint_18 : decode cX12_paint 18 = .ok (.iconst 0, 1) := dgX12_paint_11.2.2.2.2.2.1
theorem dX12_paint_19 : decode cX12_paint 19 = .ok (.iconst (-1), 1) := by decide +kernel
theorem dgX12_paint_20 : (decode cX12_paint 20 = .ok (.iastore, 1)) ∧ (decode cX12_paint 21 = .ok (.iload_n 3, 1)) ∧ (decode cX12_paint 22 = .ok (.ifCond .lt 139, 3)) ∧ (decode cX12_paint 25 = .ok (.iload_n 1, 1)) ∧ (decode cX12_paint 26 = .ok (.ifCond .le 135, 3)) ∧ (decode cX12_paint 29 = .ok (.aload_n 0, 1)) ∧ (decode cX12_paint 30 = .ok (.getfield 137, 3)) ∧ (decode cX12_paint 33 = .ok (.iload_n 3, 1)) ∧ (decode cX12_paint 34 = .ok (.dup2, 1)) ∧ (decode cX12_paint 35 = .ok (.iaload, 1)) ∧ (decode cX12_paint 36 = .ok (.iconst 1, 1)) ∧ (decode cX12_paint 37 = .ok (.iadd, 1)) ∧ True := dkW [(20, .iastore, 1), (21, .iload_n 3, 1), (22, .ifCond .lt 139, 3), (25, .iload_n 1, 1), (26, .ifCond .le 135, 3), (29, .aload_n 0, 1), (30, .getfield 137, 3), (33, .iload_n 3, 1), (34, .dup2, 1), (35, .iaload, 1), (36, .iconst 1, 1), (37, .iadd, 1)] 20 (by decide +kernel)
theorem dX12_paint_20 : decode cX12_paint 20 = .ok (.iastore, 1) := dgX12_paint_20.1
theorem dX12_paint_21 : decode cX12_paint 21 = .ok (.iload_n 3, 1) := dgX12_paint_20.2.1
theorem dX12_paint_22 : decode cX12_paint 22 = .ok (.ifCond .lt 139, 3) := dgX12_paint_20.2.2.1
theorem dX12_paint_25 : decode cX12_paint 25 = .ok (.iload_n 1, 1) := dgX12_paint_20.2.2.2.1
theorem dX12_paint_26 : decode cX12_paint 26 = .ok (.ifCond .le 135, 3) := dgX12_paint_20.2.2.2.2.1
theorem dX12_paint_29 : decode cX12_paint 29 = .ok (.aload_n 0, 1) := dgX12_paint_20.2.2.2.2.2.1
theorem dX12_paint_30 : decode cX12_paint 30 = .ok (.getfield 137, 3) := dgX12_paint_20.2.2.2.2.2.2.1
theorem dX12_paint_33 : decode cX12_paint 33 = .ok (.iload_n 3, 1) := dgX12_paint_20.2.2.2.2.2.2.2.1
theorem dX12_paint_34 : decode cX12_paint 34 = .ok (.dup2, 1) := dgX12_paint_20.2.2.2.2.2.2.2.2.1
theorem dX12_paint_35 : decode cX12_paint 35 = .ok (.iaload, 1) := dgX12_paint_20.2.2.2.2.2.2.2.2.2.1
theorem dX12_paint_36 : decode cX12_paint 36 = .ok (.iconst 1, 1) := dgX12_paint_20.2.2.2.2.2.2.2.2.2.2.1
theorem dX12_paint_37 : decode cX12_paint 37 = .ok (.iadd, 1) := dgX12_paint_20.2.2.2.2.2.2.2.2.2.2.2.1
theorem dgX12_paint_38 : (decode cX12_paint 38 = .ok (.iastore, 1)) ∧ (decode cX12_paint 39 = .ok (.aload_n 0, 1)) ∧ (decode cX12_paint 40 = .ok (.getfield 137, 3)) ∧ (decode cX12_paint 43 = .ok (.iload_n 3, 1)) ∧ (decode cX12_paint 44 = .ok (.iaload, 1)) ∧ (decode cX12_paint 45 = .ok (.aload_n 0, 1)) ∧ (decode cX12_paint 46 = .ok (.getfield 290, 3)) ∧ (decode cX12_paint 49 = .ok (.if_icmp .lt 9, 3)) ∧ (decode cX12_paint 52 = .ok (.iinc 3 (-1), 3)) ∧ (decode cX12_paint 55 = .ok (.goto (-34), 3)) ∧ (decode cX12_paint 58 = .ok (.aload_n 0, 1)) ∧ (decode cX12_paint 59 = .ok (.aload_n 0, 1)) ∧ True := dkW [(38, .iastore, 1), (39, .aload_n 0, 1), (40, .getfield 137, 3), (43, .iload_n 3, 1), (44, .iaload, 1), (45, .aload_n 0, 1), (46, .getfield 290, 3), (49, .if_icmp .lt 9, 3), (52, .iinc 3 (-1), 3), (55, .goto (-34), 3), (58, .aload_n 0, 1), (59, .aload_n 0, 1)] 38 (by decide +kernel)
theorem dX12_paint_38 : decode cX12_paint 38 = .ok (.iastore, 1) := dgX12_paint_38.1
theorem dX12_paint_39 : decode cX12_paint 39 = .ok (.aload_n 0, 1) := dgX12_paint_38.2.1
theorem dX12_paint_40 : decode cX12_paint 40 = .ok (.getfield 137, 3) := dgX12_paint_38.2.2.1
theorem dX12_paint_43 : decode cX12_paint 43 = .ok (.iload_n 3, 1) := dgX12_paint_38.2.2.2.1
theorem dX12_paint_44 : decode cX12_paint 44 = .ok (.iaload, 1) := dgX12_paint_38.2.2.2.2.1
theorem dX12_paint_45 : decode cX12_paint 45 = .ok (.aload_n 0, 1) := dgX12_paint_38.2.2.2.2.2.1
theorem dX12_paint_46 : decode cX12_paint 46 = .ok (.getfield 290, 3) := dgX12_paint_38.2.2.2.2.2.2.1
theorem dX12_paint_49 : decode cX12_paint 49 = .ok (.if_icmp .lt 9, 3) := dgX12_paint_38.2.2.2.2.2.2.2.1
theorem dX12_paint_52 : decode cX12_paint 52 = .ok (.iinc 3 (-1), 3) := dgX12_paint_38.2.2.2.2.2.2.2.2.1
theorem dX12_paint_55 : decode cX12_paint 55 = .ok (.goto (-34), 3) := dgX12_paint_38.2.2.2.2.2.2.2.2.2.1
theorem dX12_paint_58 : decode cX12_paint 58 = .ok (.aload_n 0, 1) := dgX12_paint_38.2.2.2.2.2.2.2.2.2.2.1
theorem dX12_paint_59 : decode cX12_paint 59 = .ok (.aload_n 0, 1) := dgX12_paint_38.2.2.2.2.2.2.2.2.2.2.2.1
theorem dgX12_paint_60 : (decode cX12_paint 60 = .ok (.getfield 137, 3)) ∧ (decode cX12_paint 63 = .ok (.iload_n 3, 1)) ∧ (decode cX12_paint 64 = .ok (.iaload, 1)) ∧ (decode cX12_paint 65 = .ok (.iload_n 3, 1)) ∧ (decode cX12_paint 66 = .ok (.invokevirtual 299, 3)) ∧ (decode cX12_paint 69 = .ok (.ifCond .lt (-48), 3)) ∧ (decode cX12_paint 72 = .ok (.aload_n 0, 1)) ∧ (decode cX12_paint 73 = .ok (.iload_n 3, 1)) ∧ (decode cX12_paint 74 = .ok (.invokevirtual 302, 3)) ∧ (decode cX12_paint 77 = .ok (.ifCond .ne (-56), 3)) ∧ (decode cX12_paint 80 = .ok (.iload_n 2, 1)) ∧ (decode cX12_paint 81 = .ok (.ifCond .lt 17, 3)) ∧ True := dkW [(60, .getfield 137, 3), (63, .iload_n 3, 1), (64, .iaload, 1), (65, .iload_n 3, 1), (66, .invokevirtual 299, 3), (69, .ifCond .lt (-48), 3), (72, .aload_n 0, 1), (73, .iload_n 3, 1), (74, .invokevirtual 302, 3), (77, .ifCond .ne (-56), 3), (80, .iload_n 2, 1), (81, .ifCond .lt 17, 3)] 60 (by decide +kernel)
theorem dX12_paint_60 : decode cX12_paint 60 = .ok (.getfield 137, 3) := dgX12_paint_60.1
theorem dX12_paint_63 : decode cX12_paint 63 = .ok (.iload_n 3, 1) := dgX12_paint_60.2.1
theorem dX12_paint_64 : decode cX12_paint 64 = .ok (.iaload, 1) := dgX12_paint_60.2.2.1
theorem dX12_paint_65 : decode cX12_paint 65 = .ok (.iload_n 3, 1) := dgX12_paint_60.2.2.2.1
theorem dX12_paint_66 : decode cX12_paint 66 = .ok (.invokevirtual 299, 3) := dgX12_paint_60.2.2.2.2.1
theorem dX12_paint_69 : decode cX12_paint 69 = .ok (.ifCond .lt (-48), 3) := dgX12_paint_60.2.2.2.2.2.1
theorem dX12_paint_72 : decode cX12_paint 72 = .ok (.aload_n 0, 1) := dgX12_paint_60.2.2.2.2.2.2.1
theorem dX12_paint_73 : decode cX12_paint 73 = .ok (.iload_n 3, 1) := dgX12_paint_60.2.2.2.2.2.2.2.1
theorem dX12_paint_74 : decode cX12_paint 74 = .ok (.invokevirtual 302, 3) := dgX12_paint_60.2.2.2.2.2.2.2.2.1
theorem dX12_paint_77 : decode cX12_paint 77 = .ok (.ifCond .ne (-56), 3) := dgX12_paint_60.2.2.2.2.2.2.2.2.2.1
theorem dX12_paint_80 : decode cX12_paint 80 = .ok (.iload_n 2, 1) := dgX12_paint_60.2.2.2.2.2.2.2.2.2.2.1
theorem dX12_paint_81 : decode cX12_paint 81 = .ok (.ifCond .lt 17, 3) := dgX12_paint_60.2.2.2.2.2.2.2.2.2.2.2.1
theorem dgX12_paint_84 : (decode cX12_paint 84 = .ok (.aload_n 0, 1)) ∧ (decode cX12_paint 85 = .ok (.iload_n 3, 1)) ∧ (decode cX12_paint 86 = .ok (.iconst 1, 1)) ∧ (decode cX12_paint 87 = .ok (.iadd, 1)) ∧ (decode cX12_paint 88 = .ok (.invokevirtual 305, 3)) ∧ (decode cX12_paint 91 = .ok (.iload_n 2, 1)) ∧ (decode cX12_paint 92 = .ok (.if_icmp .lt 6, 3)) ∧ (decode cX12_paint 95 = .ok (.goto (-74), 3)) ∧ (decode cX12_paint 98 = .ok (.iload_n 3, 1)) ∧ (decode cX12_paint 99 = .ok (.iload_n 1, 1)) ∧ (decode cX12_paint 100 = .ok (.iconst 1, 1)) ∧ (decode cX12_paint 101 = .ok (.isub, 1)) ∧ True := dkW [(84, .aload_n 0, 1), (85, .iload_n 3, 1), (86, .iconst 1, 1), (87, .iadd, 1), (88, .invokevirtual 305, 3), (91, .iload_n 2, 1), (92, .if_icmp .lt 6, 3), (95, .goto (-74), 3), (98, .iload_n 3, 1), (99, .iload_n 1, 1), (100, .iconst 1, 1), (101, .isub, 1)] 84 (by decide +kernel)
theorem dX12_paint_84 : decode cX12_paint 84 = .ok (.aload_n 0, 1) := dgX12_paint_84.1
theorem dX12_paint_85 : decode cX12_paint 85 = .ok (.iload_n 3, 1) := dgX12_paint_84.2.1
theorem dX12_paint_86 : decode cX12_paint 86 = .ok (.iconst 1, 1) := dgX12_paint_84.2.2.1
theorem dX12_paint_87 : decode cX12_paint 87 = .ok (.iadd, 1) := dgX12_paint_84.2.2.2.1
theorem dX12_paint_88 : decode cX12_paint 88 = .ok (.invokevirtual 305, 3) := dgX12_paint_84.2.2.2.2.1
theorem dX12_paint_91 : decode cX12_paint 91 = .ok (.iload_n 2, 1) := dgX12_paint_84.2.2.2.2.2.1
theorem dX12_paint_92 : decode cX12_paint 92 = .ok (.if_icmp .lt 6, 3) := dgX12_paint_84.2.2.2.2.2.2.1
theorem dX12_paint_95 : decode cX12_paint 95 = .ok (.goto (-74), 3) := dgX12_paint_84.2.2.2.2.2.2.2.1
theorem dX12_paint_98 : decode cX12_paint 98 = .ok (.iload_n 3, 1) := dgX12_paint_84.2.2.2.2.2.2.2.2.1
theorem dX12_paint_99 : decode cX12_paint 99 = .ok (.iload_n 1, 1) := dgX12_paint_84.2.2.2.2.2.2.2.2.2.1
theorem dX12_paint_100 : decode cX12_paint 100 = .ok (.iconst 1, 1) := dgX12_paint_84.2.2.2.2.2.2.2.2.2.2.1
theorem dX12_paint_101 : decode cX12_paint 101 = .ok (.isub, 1) := dgX12_paint_84.2.2.2.2.2.2.2.2.2.2.2.1
theorem dgX12_paint_102 : (decode cX12_paint 102 = .ok (.if_icmp .ge 16, 3)) ∧ (decode cX12_paint 105 = .ok (.iinc 3 1, 3)) ∧ (decode cX12_paint 108 = .ok (.aload_n 0, 1)) ∧ (decode cX12_paint 109 = .ok (.getfield 137, 3)) ∧ (decode cX12_paint 112 = .ok (.iload_n 3, 1)) ∧ True := dkW [(102, .if_icmp .ge 16, 3), (105, .iinc 3 1, 3), (108, .aload_n 0, 1), (109, .getfield 137, 3), (112, .iload_n 3, 1)] 102 (by decide +kernel)
theorem dX12_paint_102 : decode cX12_paint 102 = .ok (.if_icmp .ge 16, 3) := dgX12_paint_102.1
theorem dX12_paint_105 : decode cX12_paint 105 = .ok (.iinc 3 1, 3) := dgX12_paint_102.2.1
theorem dX12_paint_108 : decode cX12_paint 108 = .ok (.aload_n 0, 1) := dgX12_paint_102.2.2.1
theorem dX12_paint_109 : decode cX12_paint 109 = .ok (.getfield 137, 3) := dgX12_paint_102.2.2.2.1
theorem dX12_paint_112 : decode cX12_paint 112 = .ok (.iload_n 3, 1) := dgX12_paint_102.2.2.2.2.1
theorem dX12_paint_113 : decode cX12_paint 113 = .ok (.iconst (-1), 1) := by decide +kernel
theorem dgX12_paint_114 : (decode cX12_paint 114 = .ok (.iastore, 1)) ∧ (decode cX12_paint 115 = .ok (.goto (-94), 3)) ∧ (decode cX12_paint 118 = .ok (.aload_n 0, 1)) ∧ (decode cX12_paint 119 = .ok (.iload_n 1, 1)) ∧ (decode cX12_paint 120 = .ok (.invokevirtual 305, 3)) ∧ (decode cX12_paint 123 = .ok (.istore_n 2, 1)) ∧ (decode cX12_paint 124 = .ok (.aload_n 0, 1)) ∧ (decode cX12_paint 125 = .ok (.iload_n 1, 1)) ∧ (decode cX12_paint 126 = .ok (.putfield 308, 3)) ∧ (decode cX12_paint 129 = .ok (.iconst 0, 1)) ∧ (decode cX12_paint 130 = .ok (.istore 4, 2)) ∧ (decode cX12_paint 132 = .ok (.iload 4, 2)) ∧ True := dkW [(114, .iastore, 1), (115, .goto (-94), 3), (118, .aload_n 0, 1), (119, .iload_n 1, 1), (120, .invokevirtual 305, 3), (123, .istore_n 2, 1), (124, .aload_n 0, 1), (125, .iload_n 1, 1), (126, .putfield 308, 3), (129, .iconst 0, 1), (130, .istore 4, 2), (132, .iload 4, 2)] 114 (by decide +kernel)
theorem dX12_paint_114 : decode cX12_paint 114 = .ok (.iastore, 1) := dgX12_paint_114.1
theorem dX12_paint_115 : decode cX12_paint 115 = .ok (.goto (-94), 3) := dgX12_paint_114.2.1
theorem dX12_paint_118 : decode cX12_paint 118 = .ok (.aload_n 0, 1) := dgX12_paint_114.2.2.1
theorem dX12_paint_119 : decode cX12_paint 119 = .ok (.iload_n 1, 1) := dgX12_paint_114.2.2.2.1
theorem dX12_paint_120 : decode cX12_paint 120 = .ok (.invokevirtual 305, 3) := dgX12_paint_114.2.2.2.2.1
theorem dX12_paint_123 : decode cX12_paint 123 = .ok (.istore_n 2, 1) := dgX12_paint_114.2.2.2.2.2.1
theorem dX12_paint_124 : decode cX12_paint 124 = .ok (.aload_n 0, 1) := dgX12_paint_114.2.2.2.2.2.2.1
theorem dX12_paint_125 : decode cX12_paint 125 = .ok (.iload_n 1, 1) := dgX12_paint_114.2.2.2.2.2.2.2.1
theorem dX12_paint_126 : decode cX12_paint 126 = .ok (.putfield 308, 3) := dgX12_paint_114.2.2.2.2.2.2.2.2.1
theorem dX12_paint_129 : decode cX12_paint 129 = .ok (.iconst 0, 1) := dgX12_paint_114.2.2.2.2.2.2.2.2.2.1
theorem dX12_paint_130 : decode cX12_paint 130 = .ok (.istore 4, 2) := dgX12_paint_114.2.2.2.2.2.2.2.2.2.2.1
theorem dX12_paint_132 : decode cX12_paint 132 = .ok (.iload 4, 2) := dgX12_paint_114.2.2.2.2.2.2.2.2.2.2.2.1
theorem dgX12_paint_134 : (decode cX12_paint 134 = .ok (.iload_n 1, 1)) ∧ (decode cX12_paint 135 = .ok (.if_icmp .ge 23, 3)) ∧ (decode cX12_paint 138 = .ok (.aload_n 0, 1)) ∧ (decode cX12_paint 139 = .ok (.getfield 140, 3)) ∧ (decode cX12_paint 142 = .ok (.iload 4, 2)) ∧ (decode cX12_paint 144 = .ok (.aload_n 0, 1)) ∧ (decode cX12_paint 145 = .ok (.getfield 137, 3)) ∧ (decode cX12_paint 148 = .ok (.iload 4, 2)) ∧ (decode cX12_paint 150 = .ok (.iaload, 1)) ∧ (decode cX12_paint 151 = .ok (.iastore, 1)) ∧ (decode cX12_paint 152 = .ok (.iinc 4 1, 3)) ∧ (decode cX12_paint 155 = .ok (.goto (-23), 3)) ∧ True := dkW [(134, .iload_n 1, 1), (135, .if_icmp .ge 23, 3), (138, .aload_n 0, 1), (139, .getfield 140, 3), (142, .iload 4, 2), (144, .aload_n 0, 1), (145, .getfield 137, 3), (148, .iload 4, 2), (150, .iaload, 1), (151, .iastore, 1), (152, .iinc 4 1, 3), (155, .goto (-23), 3)] 134 (by decide +kernel)
theorem dX12_paint_134 : decode cX12_paint 134 = .ok (.iload_n 1, 1) := dgX12_paint_134.1
theorem dX12_paint_135 : decode cX12_paint 135 = .ok (.if_icmp .ge 23, 3) := dgX12_paint_134.2.1
theorem dX12_paint_138 : decode cX12_paint 138 = .ok (.aload_n 0, 1) := dgX12_paint_134.2.2.1
theorem dX12_paint_139 : decode cX12_paint 139 = .ok (.getfield 140, 3) := dgX12_paint_134.2.2.2.1
theorem dX12_paint_142 : decode cX12_paint 142 = .ok (.iload 4, 2) := dgX12_paint_134.2.2.2.2.1
theorem dX12_paint_144 : decode cX12_paint 144 = .ok (.aload_n 0, 1) := dgX12_paint_134.2.2.2.2.2.1
theorem dX12_paint_145 : decode cX12_paint 145 = .ok (.getfield 137, 3) := dgX12_paint_134.2.2.2.2.2.2.1
theorem dX12_paint_148 : decode cX12_paint 148 = .ok (.iload 4, 2) := dgX12_paint_134.2.2.2.2.2.2.2.1
theorem dX12_paint_150 : decode cX12_paint 150 = .ok (.iaload, 1) := dgX12_paint_134.2.2.2.2.2.2.2.2.1
theorem dX12_paint_151 : decode cX12_paint 151 = .ok (.iastore, 1) := dgX12_paint_134.2.2.2.2.2.2.2.2.2.1
theorem dX12_paint_152 : decode cX12_paint 152 = .ok (.iinc 4 1, 3) := dgX12_paint_134.2.2.2.2.2.2.2.2.2.2.1
theorem dX12_paint_155 : decode cX12_paint 155 = .ok (.goto (-23), 3) := dgX12_paint_134.2.2.2.2.2.2.2.2.2.2.2.1
theorem dgX12_paint_158 : (decode cX12_paint 158 = .ok (.goto (-137), 3)) ∧ (decode cX12_paint 161 = .ok (.iload_n 2, 1)) ∧ (decode cX12_paint 162 = .ok (.ifCond .ge 8, 3)) ∧ (decode cX12_paint 165 = .ok (.bipush (-2), 2)) ∧ (decode cX12_paint 167 = .ok (.goto 4, 3)) ∧ (decode cX12_paint 170 = .ok (.iload_n 2, 1)) ∧ (decode cX12_paint 171 = .ok (.ireturn, 1)) ∧ True := dkW [(158, .goto (-137), 3), (161, .iload_n 2, 1), (162, .ifCond .ge 8, 3), (165, .bipush (-2), 2), (167, .goto 4, 3), (170, .iload_n 2, 1), (171, .ireturn, 1)] 158 (by decide +kernel)
theorem dX12_paint_158 : decode cX12_paint 158 = .ok (.goto (-137), 3) := dgX12_paint_158.1
theorem dX12_paint_161 : decode cX12_paint 161 = .ok (.iload_n 2, 1) := dgX12_paint_158.2.1
theorem dX12_paint_162 : decode cX12_paint 162 = .ok (.ifCond .ge 8, 3) := dgX12_paint_158.2.2.1
theorem dX12_paint_165 : decode cX12_paint 165 = .ok (.bipush (-2), 2) := dgX12_paint_158.2.2.2.1
theorem dX12_paint_167 : decode cX12_paint 167 = .ok (.goto 4, 3) := dgX12_paint_158.2.2.2.2.1
theorem dX12_paint_170 : decode cX12_paint 170 = .ok (.iload_n 2, 1) := dgX12_paint_158.2.2.2.2.2.1
theorem dX12_paint_171 : decode cX12_paint 171 = .ok (.ireturn, 1) := dgX12_paint_158.2.2.2.2.2.2.1
abbrev rmX12_paint : Room := { frames := 3, cells := 0, slots := 0, locals := 65 }
noncomputable def fX12_paint_b171 (N : Nat)  (t : Nat) (h : Hs) (u0 : Int32) : Option (Int32 × Hs) :=
  some (u0, h)
set_option maxHeartbeats 4000000 in
set_option maxRecDepth 20000 in
theorem wX12_paint_b171 {p : Program} {l : Launch} {e : Env} {s : State} {m : MethodId} {args : Array Value} {below : List Frame} {meth : Method} {c : Code} {G : Gl} {N : Nat} {h : Hs} {r : Int32 × Hs}  {t : Nat} {u0 : Int32} (C : Cx p s m args meth c cX12_paint RX12 5 G) (hret : meth.sig.returnType = (some .int))  (hf : fX12_paint_b171 N  t h u0 = some r) : V p l e rmX12_paint s m args below meth c G 5 (MQ below (QcG G (some (.inl r.1)) r.2) args s rmX12_paint.cells rmX12_paint.slots (AG G)) h 0 0 171 [some (.inr (some t)), none, none, none, none] [.inl u0] := by
  unfold fX12_paint_b171 at hf
  exact r_iretF C dX12_paint_171 hret hf (by decide) (by decide)
noncomputable def fX12_paint_b161 (N : Nat)  (t : Nat) (h : Hs) (x2 : Int32) : Option (Int32 × Hs) :=
  if 0 ≤ x2 then (
  fX12_paint_b171 N t h x2)
  else fX12_paint_b171 N t h (-2)
set_option maxHeartbeats 4000000 in
set_option maxRecDepth 20000 in
theorem wX12_paint_b161 {p : Program} {l : Launch} {e : Env} {s : State} {m : MethodId} {args : Array Value} {below : List Frame} {meth : Method} {c : Code} {G : Gl} {N : Nat} {h : Hs} {r : Int32 × Hs}  {t : Nat} {x2 : Int32} (C : Cx p s m args meth c cX12_paint RX12 5 G) (hret : meth.sig.returnType = (some .int))  (hf : fX12_paint_b161 N  t h x2 = some r) : V p l e rmX12_paint s m args below meth c G 5 (MQ below (QcG G (some (.inl r.1)) r.2) args s rmX12_paint.cells rmX12_paint.slots (AG G)) h 0 0 161 [some (.inr (some t)), none, some (.inl x2), none, none] [] := by
  unfold fX12_paint_b161 at hf
  refine r_iload_n C dX12_paint_161 rfl ?_
  refine r_if_ge (tgt := 170) C dX12_paint_162 (by decide) (fun hc => ?_) (fun hc => ?_)
  · have hf := ifT hf hc
    refine r_iload_n C dX12_paint_170 rfl ?_
    exact V.sub (wX12_paint_b171 C hret hf) (LW_s rfl (LW_n (LW_n (LW_n (LW_n (LW_e))))))
  · have hf := ifF hf hc
    refine r_bipush (v := -2) C dX12_paint_165 (by decide) ?_
    refine r_goto (tgt := 171) C dX12_paint_167 (by decide) ?_
    exact V.sub (wX12_paint_b171 C hret hf) (LW_s rfl (LW_n (LW_n (LW_n (LW_n (LW_e))))))
noncomputable def fX12_paint_b132_body (N : Nat) (g21 : Hs → Int32 → Int32 → Int32 → Option (Int32 × Hs)) (g132 : Hs → Int32 → Int32 → Int32 → Int32 → Option (Int32 × Hs)) (t : Nat) (h : Hs) (x1 : Int32) (x2 : Int32) (x3 : Int32) (x4 : Int32) : Option (Int32 × Hs) :=
  if x1 ≤ x4 then (
  g21 h x1 x2 x3)
  else (oR 12 64 h (some t)).bind fun o1 =>
  (oR 12 62 h (some t)).bind fun o2 =>
  (lA 20 h o2 x4).bind fun v3 =>
  (sA h o1 x4 v3).bind fun h4 =>
  (some (x4 + 1)).bind fun y5 =>
  g132 h4 x1 x2 x3 y5
noncomputable def fX12_paint_b132 (N : Nat) (g21 : Hs → Int32 → Int32 → Int32 → Option (Int32 × Hs)) (t : Nat) (n : Nat) : Hs → Int32 → Int32 → Int32 → Int32 → Option (Int32 × Hs) := lp (fun _ _ _ _ _ => none) (fun g h x1 x2 x3 x4 => fX12_paint_b132_body N g21 g t h x1 x2 x3 x4) n
set_option maxHeartbeats 4000000 in
set_option maxRecDepth 20000 in
theorem wX12_paint_b132_body {p : Program} {l : Launch} {e : Env} {s : State} {m : MethodId} {args : Array Value} {below : List Frame} {meth : Method} {c : Code} {G : Gl} {N : Nat} {h : Hs} {r : Int32 × Hs} {g21 : Hs → Int32 → Int32 → Int32 → Option (Int32 × Hs)} {g132 : Hs → Int32 → Int32 → Int32 → Int32 → Option (Int32 × Hs)} {t : Nat} {x1 : Int32} {x2 : Int32} {x3 : Int32} {x4 : Int32} (C : Cx p s m args meth c cX12_paint RX12 5 G) (hret : meth.sig.returnType = (some .int)) (hg21 : ∀ (h : Hs) (x1 : Int32) (x2 : Int32) (x3 : Int32), g21 h x1 x2 x3 = some r → V p l e rmX12_paint s m args below meth c G 5 (MQ below (QcG G (some (.inl r.1)) r.2) args s rmX12_paint.cells rmX12_paint.slots (AG G)) h 0 0 21 [some (.inr (some t)), some (.inl x1), some (.inl x2), some (.inl x3), none] []) (hg132 : ∀ (h : Hs) (x1 : Int32) (x2 : Int32) (x3 : Int32) (x4 : Int32), g132 h x1 x2 x3 x4 = some r → V p l e rmX12_paint s m args below meth c G 5 (MQ below (QcG G (some (.inl r.1)) r.2) args s rmX12_paint.cells rmX12_paint.slots (AG G)) h 0 0 132 [some (.inr (some t)), some (.inl x1), some (.inl x2), some (.inl x3), some (.inl x4)] []) (hf : fX12_paint_b132_body N g21 g132 t h x1 x2 x3 x4 = some r) : V p l e rmX12_paint s m args below meth c G 5 (MQ below (QcG G (some (.inl r.1)) r.2) args s rmX12_paint.cells rmX12_paint.slots (AG G)) h 0 0 132 [some (.inr (some t)), some (.inl x1), some (.inl x2), some (.inl x3), some (.inl x4)] [] := by
  unfold fX12_paint_b132_body at hf
  refine r_iload C dX12_paint_132 rfl ?_
  refine r_iload_n C dX12_paint_134 rfl ?_
  refine r_icmp_ge (tgt := 158) C dX12_paint_135 (by decide) (fun hc => ?_) (fun hc => ?_)
  · have hf := ifT hf hc
    refine r_goto (tgt := 21) C dX12_paint_158 (by decide) ?_
    exact V.sub (hg21 _ _ _ _ hf) (LW_s rfl (LW_s rfl (LW_s rfl (LW_s rfl (LW_n (LW_e))))))
  · have hf := ifF hf hc
    refine r_aload_n C dX12_paint_138 rfl ?_
    obtain ⟨o1, eo1, hf⟩ := bS hf
    refine r_getR C dX12_paint_139 fl_X12_140 rfl eo1 ?_
    refine r_iload C dX12_paint_142 rfl ?_
    refine r_aload_n C dX12_paint_144 rfl ?_
    obtain ⟨o2, eo2, hf⟩ := bS hf
    refine r_getR C dX12_paint_145 fl_X12_137 rfl eo2 ?_
    refine r_iload C dX12_paint_148 rfl ?_
    obtain ⟨v3, ev3, hf⟩ := bS hf
    refine r_iald C dX12_paint_150 ev3 ?_
    obtain ⟨h4, eh4, hf⟩ := bS hf
    refine r_iast C dX12_paint_151 eh4 ?_
    obtain ⟨y5, ey5, hf⟩ := bS hf
    refine r_iincE (v := 1) C dX12_paint_152 rfl (by decide) (by decide) ey5 ?_
    refine r_goto (tgt := 132) C dX12_paint_155 (by decide) ?_
    exact V.sub (hg132 _ _ _ _ _ hf) (LW_s rfl (LW_s rfl (LW_s rfl (LW_s rfl (LW_s rfl (LW_e))))))
theorem wX12_paint_b132 {p : Program} {l : Launch} {e : Env} {s : State} {m : MethodId} {args : Array Value} {below : List Frame} {meth : Method} {c : Code} {G : Gl} {N : Nat} {r : Int32 × Hs} {g21 : Hs → Int32 → Int32 → Int32 → Option (Int32 × Hs)} {t : Nat} (C : Cx p s m args meth c cX12_paint RX12 5 G) (hret : meth.sig.returnType = (some .int)) (hg21 : ∀ (h : Hs) (x1 : Int32) (x2 : Int32) (x3 : Int32), g21 h x1 x2 x3 = some r → V p l e rmX12_paint s m args below meth c G 5 (MQ below (QcG G (some (.inl r.1)) r.2) args s rmX12_paint.cells rmX12_paint.slots (AG G)) h 0 0 21 [some (.inr (some t)), some (.inl x1), some (.inl x2), some (.inl x3), none] []) : ∀ (n : Nat) (h : Hs) (x1 : Int32) (x2 : Int32) (x3 : Int32) (x4 : Int32), fX12_paint_b132 N g21 t n h x1 x2 x3 x4 = some r → V p l e rmX12_paint s m args below meth c G 5 (MQ below (QcG G (some (.inl r.1)) r.2) args s rmX12_paint.cells rmX12_paint.slots (AG G)) h 0 0 132 [some (.inr (some t)), some (.inl x1), some (.inl x2), some (.inl x3), some (.inl x4)] [] := by
  intro n
  induction n with
  | zero => intro h x1 x2 x3 x4 hf; exact absurd (show (none : Option (Int32 × Hs)) = some r from hf) (fun q => by cases q)
  | succ n ih => intro h x1 x2 x3 x4 hf; exact wX12_paint_b132_body C hret hg21 ih (show fX12_paint_b132_body N g21 (fX12_paint_b132 N g21 t n) t h x1 x2 x3 x4 = some r from hf)
noncomputable def fX12_paint_b98 (N : Nat) (g21 : Hs → Int32 → Int32 → Int32 → Option (Int32 × Hs)) (t : Nat) (h : Hs) (x1 : Int32) (x2 : Int32) (x3 : Int32) : Option (Int32 × Hs) :=
  if (x1 - 1) ≤ x3 then (
  (rc 12 h (some t)).bind fun a2 =>
  (fX12_costTo N h a2 x1).bind fun r1 =>
  (qI 12 63 r1.2 (some t) x1).bind fun h3 =>
  fX12_paint_b132 N g21 t N h3 x1 r1.1 x3 0)
  else (some (x3 + 1)).bind fun y4 =>
  (oR 12 62 h (some t)).bind fun o5 =>
  (sA h o5 y4 (-1)).bind fun h6 =>
  g21 h6 x1 x2 y4
set_option maxHeartbeats 4000000 in
set_option maxRecDepth 20000 in
theorem wX12_paint_b98 {p : Program} {l : Launch} {e : Env} {s : State} {m : MethodId} {args : Array Value} {below : List Frame} {meth : Method} {c : Code} {G : Gl} {N : Nat} {h : Hs} {r : Int32 × Hs} {g21 : Hs → Int32 → Int32 → Int32 → Option (Int32 × Hs)} {t : Nat} {x1 : Int32} {x2 : Int32} {x3 : Int32} (C : Cx p s m args meth c cX12_paint RX12 5 G) (hret : meth.sig.returnType = (some .int)) (hg21 : ∀ (h : Hs) (x1 : Int32) (x2 : Int32) (x3 : Int32), g21 h x1 x2 x3 = some r → V p l e rmX12_paint s m args below meth c G 5 (MQ below (QcG G (some (.inl r.1)) r.2) args s rmX12_paint.cells rmX12_paint.slots (AG G)) h 0 0 21 [some (.inr (some t)), some (.inl x1), some (.inl x2), some (.inl x3), none] []) (hf : fX12_paint_b98 N g21 t h x1 x2 x3 = some r) : V p l e rmX12_paint s m args below meth c G 5 (MQ below (QcG G (some (.inl r.1)) r.2) args s rmX12_paint.cells rmX12_paint.slots (AG G)) h 0 0 98 [some (.inr (some t)), some (.inl x1), some (.inl x2), some (.inl x3), none] [] := by
  unfold fX12_paint_b98 at hf
  refine r_iload_n C dX12_paint_98 rfl ?_
  refine r_iload_n C dX12_paint_99 rfl ?_
  refine r_iconst (v := 1) C dX12_paint_100 (by decide) ?_
  refine r_isub C dX12_paint_101 ?_
  refine r_icmp_ge (tgt := 118) C dX12_paint_102 (by decide) (fun hc => ?_) (fun hc => ?_)
  · have hf := ifT hf hc
    refine r_aload_n C dX12_paint_118 rfl ?_
    refine r_iload_n C dX12_paint_119 rfl ?_
    obtain ⟨a2, ea2, hf⟩ := bS hf
    obtain ⟨r1, er1, hf⟩ := bS hf
    refine r_invV1 (As := [.inl x1]) (ci := 12) C dX12_paint_120 mcX12_costTo wd_1415 wd_1417 wp_55 rfl rfl (by decide) ⟨by decide, by decide⟩ ⟨by decide, by decide⟩ rfl (Nat.le_of_ble_eq_true rfl) ea2 (kX12_costTo l G er1) ?_
    refine r_istore_n C dX12_paint_123 (by decide) ?_
    refine r_aload_n C dX12_paint_124 rfl ?_
    refine r_iload_n C dX12_paint_125 rfl ?_
    obtain ⟨h3, eh3, hf⟩ := bS hf
    refine r_putI C dX12_paint_126 fl_X12_308 (Or.inl fn_12_63) rfl eh3 ?_
    refine r_iconst (v := 0) C dX12_paint_129 (by decide) ?_
    refine r_istore C dX12_paint_130 (by decide) ?_
    exact V.sub (wX12_paint_b132 C hret hg21 N _ _ _ _ _ hf) (LW_s rfl (LW_s rfl (LW_s rfl (LW_s rfl (LW_s rfl (LW_e))))))
  · have hf := ifF hf hc
    obtain ⟨y4, ey4, hf⟩ := bS hf
    refine r_iincE (v := 1) C dX12_paint_105 rfl (by decide) (by decide) ey4 ?_
    refine r_aload_n C dX12_paint_108 rfl ?_
    obtain ⟨o5, eo5, hf⟩ := bS hf
    refine r_getR C dX12_paint_109 fl_X12_137 rfl eo5 ?_
    refine r_iload_n C dX12_paint_112 rfl ?_
    refine r_iconst (v := -1) C dX12_paint_113 (by decide) ?_
    obtain ⟨h6, eh6, hf⟩ := bS hf
    refine r_iast C dX12_paint_114 eh6 ?_
    refine r_goto (tgt := 21) C dX12_paint_115 (by decide) ?_
    exact V.sub (hg21 _ _ _ _ hf) (LW_s rfl (LW_s rfl (LW_s rfl (LW_s rfl (LW_n (LW_e))))))
noncomputable def fX12_paint_b21_body (N : Nat)  (g21 : Hs → Int32 → Int32 → Int32 → Option (Int32 × Hs)) (t : Nat) (h : Hs) (x1 : Int32) (x2 : Int32) (x3 : Int32) : Option (Int32 × Hs) :=
  if x3 < 0 then (
  fX12_paint_b161 N t h x2)
  else if x1 ≤ 0 then (
  fX12_paint_b161 N t h x2)
  else (oR 12 62 h (some t)).bind fun o1 =>
  (lA 20 h o1 x3).bind fun v2 =>
  (sA h o1 x3 (v2 + 1)).bind fun h3 =>
  (oR 12 62 h3 (some t)).bind fun o4 =>
  (lA 20 h3 o4 x3).bind fun v5 =>
  (oI 12 56 h3 (some t)).bind fun v6 =>
  if v5 < v6 then (
  (oR 12 62 h3 (some t)).bind fun o7 =>
  (lA 20 h3 o7 x3).bind fun v8 =>
  (rc 12 h3 (some t)).bind fun a10 =>
  (fX12_cost N h3 a10 v8 x3).bind fun r9 =>
  if r9.1 < 0 then (
  g21 r9.2 x1 x2 x3)
  else (rc 12 r9.2 (some t)).bind fun a12 =>
  (fX12_isTaken N r9.2 a12 x3).bind fun r11 =>
  if r11.1 = 0 then (
  if x2 < 0 then (
  fX12_paint_b98 N g21 t r11.2 x1 x2 x3)
  else (rc 12 r11.2 (some t)).bind fun a14 =>
  (fX12_costTo N r11.2 a14 (x3 + 1)).bind fun r13 =>
  if r13.1 < x2 then (
  fX12_paint_b98 N g21 t r13.2 x1 x2 x3)
  else g21 r13.2 x1 x2 x3)
  else g21 r11.2 x1 x2 x3)
  else (some (x3 + (-1))).bind fun y15 =>
  g21 h3 x1 x2 y15
noncomputable def fX12_paint_b21 (N : Nat)  (t : Nat) (n : Nat) : Hs → Int32 → Int32 → Int32 → Option (Int32 × Hs) := lp (fun _ _ _ _ => none) (fun g h x1 x2 x3 => fX12_paint_b21_body N  g t h x1 x2 x3) n
set_option maxHeartbeats 4000000 in
set_option maxRecDepth 20000 in
theorem wX12_paint_b21_body {p : Program} {l : Launch} {e : Env} {s : State} {m : MethodId} {args : Array Value} {below : List Frame} {meth : Method} {c : Code} {G : Gl} {N : Nat} {h : Hs} {r : Int32 × Hs}  {g21 : Hs → Int32 → Int32 → Int32 → Option (Int32 × Hs)} {t : Nat} {x1 : Int32} {x2 : Int32} {x3 : Int32} (C : Cx p s m args meth c cX12_paint RX12 5 G) (hret : meth.sig.returnType = (some .int))  (hg21 : ∀ (h : Hs) (x1 : Int32) (x2 : Int32) (x3 : Int32), g21 h x1 x2 x3 = some r → V p l e rmX12_paint s m args below meth c G 5 (MQ below (QcG G (some (.inl r.1)) r.2) args s rmX12_paint.cells rmX12_paint.slots (AG G)) h 0 0 21 [some (.inr (some t)), some (.inl x1), some (.inl x2), some (.inl x3), none] []) (hf : fX12_paint_b21_body N  g21 t h x1 x2 x3 = some r) : V p l e rmX12_paint s m args below meth c G 5 (MQ below (QcG G (some (.inl r.1)) r.2) args s rmX12_paint.cells rmX12_paint.slots (AG G)) h 0 0 21 [some (.inr (some t)), some (.inl x1), some (.inl x2), some (.inl x3), none] [] := by
  unfold fX12_paint_b21_body at hf
  refine r_iload_n C dX12_paint_21 rfl ?_
  refine r_if_lt (tgt := 161) C dX12_paint_22 (by decide) (fun hc => ?_) (fun hc => ?_)
  · have hf := ifT hf hc
    exact V.sub (wX12_paint_b161 C hret hf) (LW_s rfl (LW_n (LW_s rfl (LW_n (LW_n (LW_e))))))
  · have hf := ifF hf hc
    refine r_iload_n C dX12_paint_25 rfl ?_
    refine r_if_le (tgt := 161) C dX12_paint_26 (by decide) (fun hc => ?_) (fun hc => ?_)
    · have hf := ifT hf hc
      exact V.sub (wX12_paint_b161 C hret hf) (LW_s rfl (LW_n (LW_s rfl (LW_n (LW_n (LW_e))))))
    · have hf := ifF hf hc
      refine r_aload_n C dX12_paint_29 rfl ?_
      obtain ⟨o1, eo1, hf⟩ := bS hf
      refine r_getR C dX12_paint_30 fl_X12_137 rfl eo1 ?_
      refine r_iload_n C dX12_paint_33 rfl ?_
      refine r_dup2 C dX12_paint_34 ?_
      obtain ⟨v2, ev2, hf⟩ := bS hf
      refine r_iald C dX12_paint_35 ev2 ?_
      refine r_iconst (v := 1) C dX12_paint_36 (by decide) ?_
      refine r_iadd C dX12_paint_37 ?_
      obtain ⟨h3, eh3, hf⟩ := bS hf
      refine r_iast C dX12_paint_38 eh3 ?_
      refine r_aload_n C dX12_paint_39 rfl ?_
      obtain ⟨o4, eo4, hf⟩ := bS hf
      refine r_getR C dX12_paint_40 fl_X12_137 rfl eo4 ?_
      refine r_iload_n C dX12_paint_43 rfl ?_
      obtain ⟨v5, ev5, hf⟩ := bS hf
      refine r_iald C dX12_paint_44 ev5 ?_
      refine r_aload_n C dX12_paint_45 rfl ?_
      obtain ⟨v6, ev6, hf⟩ := bS hf
      refine r_getI C dX12_paint_46 fl_X12_290 rfl ev6 ?_
      refine r_icmp_lt (tgt := 58) C dX12_paint_49 (by decide) (fun hc => ?_) (fun hc => ?_)
      · have hf := ifT hf hc
        refine r_aload_n C dX12_paint_58 rfl ?_
        refine r_aload_n C dX12_paint_59 rfl ?_
        obtain ⟨o7, eo7, hf⟩ := bS hf
        refine r_getR C dX12_paint_60 fl_X12_137 rfl eo7 ?_
        refine r_iload_n C dX12_paint_63 rfl ?_
        obtain ⟨v8, ev8, hf⟩ := bS hf
        refine r_iald C dX12_paint_64 ev8 ?_
        refine r_iload_n C dX12_paint_65 rfl ?_
        obtain ⟨a10, ea10, hf⟩ := bS hf
        obtain ⟨r9, er9, hf⟩ := bS hf
        refine r_invV1 (As := [.inl v8, .inl x3]) (ci := 12) C dX12_paint_66 mcX12_cost wd_1404 wd_1406 wp_53 rfl rfl (by decide) ⟨by decide, by decide⟩ ⟨by decide, by decide⟩ rfl (Nat.le_of_ble_eq_true rfl) ea10 (kX12_cost l G er9) ?_
        refine r_if_lt (tgt := 21) C dX12_paint_69 (by decide) (fun hc => ?_) (fun hc => ?_)
        · have hf := ifT hf hc
          exact V.sub (hg21 _ _ _ _ hf) (LW_s rfl (LW_s rfl (LW_s rfl (LW_s rfl (LW_n (LW_e))))))
        · have hf := ifF hf hc
          refine r_aload_n C dX12_paint_72 rfl ?_
          refine r_iload_n C dX12_paint_73 rfl ?_
          obtain ⟨a12, ea12, hf⟩ := bS hf
          obtain ⟨r11, er11, hf⟩ := bS hf
          refine r_invV1 (As := [.inl x3]) (ci := 12) C dX12_paint_74 mcX12_isTaken wd_1411 wd_1413 wp_54 rfl rfl (by decide) ⟨by decide, by decide⟩ ⟨by decide, by decide⟩ rfl (Nat.le_of_ble_eq_true rfl) ea12 (kX12_isTaken l G er11) ?_
          refine r_if_ne (tgt := 21) C dX12_paint_77 (by decide) (fun hc => ?_) (fun hc => ?_)
          · have hf := ifF hf hc
            exact V.sub (hg21 _ _ _ _ hf) (LW_s rfl (LW_s rfl (LW_s rfl (LW_s rfl (LW_n (LW_e))))))
          · have hf := ifT hf hc
            refine r_iload_n C dX12_paint_80 rfl ?_
            refine r_if_lt (tgt := 98) C dX12_paint_81 (by decide) (fun hc => ?_) (fun hc => ?_)
            · have hf := ifT hf hc
              exact V.sub (wX12_paint_b98 C hret hg21 hf) (LW_s rfl (LW_s rfl (LW_s rfl (LW_s rfl (LW_n (LW_e))))))
            · have hf := ifF hf hc
              refine r_aload_n C dX12_paint_84 rfl ?_
              refine r_iload_n C dX12_paint_85 rfl ?_
              refine r_iconst (v := 1) C dX12_paint_86 (by decide) ?_
              refine r_iadd C dX12_paint_87 ?_
              obtain ⟨a14, ea14, hf⟩ := bS hf
              obtain ⟨r13, er13, hf⟩ := bS hf
              refine r_invV1 (As := [.inl (x3 + 1)]) (ci := 12) C dX12_paint_88 mcX12_costTo wd_1415 wd_1417 wp_55 rfl rfl (by decide) ⟨by decide, by decide⟩ ⟨by decide, by decide⟩ rfl (Nat.le_of_ble_eq_true rfl) ea14 (kX12_costTo l G er13) ?_
              refine r_iload_n C dX12_paint_91 rfl ?_
              refine r_icmp_lt (tgt := 98) C dX12_paint_92 (by decide) (fun hc => ?_) (fun hc => ?_)
              · have hf := ifT hf hc
                exact V.sub (wX12_paint_b98 C hret hg21 hf) (LW_s rfl (LW_s rfl (LW_s rfl (LW_s rfl (LW_n (LW_e))))))
              · have hf := ifF hf hc
                refine r_goto (tgt := 21) C dX12_paint_95 (by decide) ?_
                exact V.sub (hg21 _ _ _ _ hf) (LW_s rfl (LW_s rfl (LW_s rfl (LW_s rfl (LW_n (LW_e))))))
      · have hf := ifF hf hc
        obtain ⟨y15, ey15, hf⟩ := bS hf
        refine r_iincE (v := -1) C dX12_paint_52 rfl (by decide) (by decide) ey15 ?_
        refine r_goto (tgt := 21) C dX12_paint_55 (by decide) ?_
        exact V.sub (hg21 _ _ _ _ hf) (LW_s rfl (LW_s rfl (LW_s rfl (LW_s rfl (LW_n (LW_e))))))
theorem wX12_paint_b21 {p : Program} {l : Launch} {e : Env} {s : State} {m : MethodId} {args : Array Value} {below : List Frame} {meth : Method} {c : Code} {G : Gl} {N : Nat} {r : Int32 × Hs}  {t : Nat} (C : Cx p s m args meth c cX12_paint RX12 5 G) (hret : meth.sig.returnType = (some .int))  : ∀ (n : Nat) (h : Hs) (x1 : Int32) (x2 : Int32) (x3 : Int32), fX12_paint_b21 N  t n h x1 x2 x3 = some r → V p l e rmX12_paint s m args below meth c G 5 (MQ below (QcG G (some (.inl r.1)) r.2) args s rmX12_paint.cells rmX12_paint.slots (AG G)) h 0 0 21 [some (.inr (some t)), some (.inl x1), some (.inl x2), some (.inl x3), none] [] := by
  intro n
  induction n with
  | zero => intro h x1 x2 x3 hf; exact absurd (show (none : Option (Int32 × Hs)) = some r from hf) (fun q => by cases q)
  | succ n ih => intro h x1 x2 x3 hf; exact wX12_paint_b21_body C hret  ih (show fX12_paint_b21_body N  (fX12_paint_b21 N  t n) t h x1 x2 x3 = some r from hf)
noncomputable def fX12_paint (N : Nat) (h : Hs) (t : Nat)  : Option (Int32 × Hs) :=
  (oI 12 59 h (some t)).bind fun v1 =>
  (qI 12 59 h (some t) 0).bind fun h2 =>
  (oR 12 62 h2 (some t)).bind fun o3 =>
  (sA h2 o3 0 (-1)).bind fun h4 =>
  fX12_paint_b21 N t N h4 v1 (-1) 0
set_option maxHeartbeats 4000000 in
set_option maxRecDepth 20000 in
theorem kX12_paint (l : Launch) (G : Gl) {N : Nat} {h : Hs} {t : Nat}  {r : Int32 × Hs} (hf : fX12_paint N h t  = some r) : CT l G yX12_paint cX12_paint 5 (some .int) rmX12_paint [.inr (some t)] h (some (.inl r.1)) r.2 := by
  refine mk_CT (by decide) (Nat.le_of_ble_eq_true rfl) ?_
  intro p e s m args below meth c C hret hin
  unfold fX12_paint at hf
  refine r_aload_n C dX12_paint_0 rfl ?_
  obtain ⟨v1, ev1, hf⟩ := bS hf
  refine r_getI C dX12_paint_1 fl_X12_293 rfl ev1 ?_
  refine r_istore_n C dX12_paint_4 (by decide) ?_
  refine r_aload_n C dX12_paint_5 rfl ?_
  refine r_iconst (v := 0) C dX12_paint_6 (by decide) ?_
  obtain ⟨h2, eh2, hf⟩ := bS hf
  refine r_putI C dX12_paint_7 fl_X12_293 (Or.inl fn_12_59) rfl eh2 ?_
  refine r_iconst (v := -1) C dX12_paint_10 (by decide) ?_
  refine r_istore_n C dX12_paint_11 (by decide) ?_
  refine r_iconst (v := 0) C dX12_paint_12 (by decide) ?_
  refine r_istore_n C dX12_paint_13 (by decide) ?_
  refine r_aload_n C dX12_paint_14 rfl ?_
  obtain ⟨o3, eo3, hf⟩ := bS hf
  refine r_getR C dX12_paint_15 fl_X12_137 rfl eo3 ?_
  refine r_iconst (v := 0) C dX12_paint_18 (by decide) ?_
  refine r_iconst (v := -1) C dX12_paint_19 (by decide) ?_
  obtain ⟨h4, eh4, hf⟩ := bS hf
  refine r_iast C dX12_paint_20 eh4 ?_
  exact V.sub (wX12_paint_b21 C hret N _ _ _ _ hf) (LW_s rfl (LW_s rfl (LW_s rfl (LW_s rfl (LW_n (LW_e))))))

theorem dgX12_given_0 : (decode cX12_given 0 = .ok (.iload_n 1, 1)) ∧ (decode cX12_given 1 = .ok (.iconst 0, 1)) ∧ (decode cX12_given 2 = .ok (.aload_n 0, 1)) ∧ (decode cX12_given 3 = .ok (.getfield 308, 3)) ∧ (decode cX12_given 6 = .ok (.iconst 1, 1)) ∧ (decode cX12_given 7 = .ok (.isub, 1)) ∧ (decode cX12_given 8 = .ok (.invokestatic 149, 3)) ∧ (decode cX12_given 11 = .ok (.ifCond .eq 12, 3)) ∧ (decode cX12_given 14 = .ok (.aload_n 0, 1)) ∧ (decode cX12_given 15 = .ok (.getfield 140, 3)) ∧ (decode cX12_given 18 = .ok (.iload_n 1, 1)) ∧ (decode cX12_given 19 = .ok (.iaload, 1)) ∧ True := dkW [(0, .iload_n 1, 1), (1, .iconst 0, 1), (2, .aload_n 0, 1), (3, .getfield 308, 3), (6, .iconst 1, 1), (7, .isub, 1), (8, .invokestatic 149, 3), (11, .ifCond .eq 12, 3), (14, .aload_n 0, 1), (15, .getfield 140, 3), (18, .iload_n 1, 1), (19, .iaload, 1)] 0 (by decide +kernel)
theorem dX12_given_0 : decode cX12_given 0 = .ok (.iload_n 1, 1) := dgX12_given_0.1
theorem dX12_given_1 : decode cX12_given 1 = .ok (.iconst 0, 1) := dgX12_given_0.2.1
theorem dX12_given_2 : decode cX12_given 2 = .ok (.aload_n 0, 1) := dgX12_given_0.2.2.1
theorem dX12_given_3 : decode cX12_given 3 = .ok (.getfield 308, 3) := dgX12_given_0.2.2.2.1
theorem dX12_given_6 : decode cX12_given 6 = .ok (.iconst 1, 1) := dgX12_given_0.2.2.2.2.1
theorem dX12_given_7 : decode cX12_given 7 = .ok (.isub, 1) := dgX12_given_0.2.2.2.2.2.1
theorem dX12_given_8 : decode cX12_given 8 = .ok (.invokestatic 149, 3) := dgX12_given_0.2.2.2.2.2.2.1
theorem dX12_given_11 : decode cX12_given 11 = .ok (.ifCond .eq 12, 3) := dgX12_given_0.2.2.2.2.2.2.2.1
theorem dX12_given_14 : decode cX12_given 14 = .ok (.aload_n 0, 1) := dgX12_given_0.2.2.2.2.2.2.2.2.1
theorem dX12_given_15 : decode cX12_given 15 = .ok (.getfield 140, 3) := dgX12_given_0.2.2.2.2.2.2.2.2.2.1
theorem dX12_given_18 : decode cX12_given 18 = .ok (.iload_n 1, 1) := dgX12_given_0.2.2.2.2.2.2.2.2.2.2.1
theorem dX12_given_19 : decode cX12_given 19 = .ok (.iaload, 1) := dgX12_given_0.2.2.2.2.2.2.2.2.2.2.2.1
theorem dgX12_given_20 : (decode cX12_given 20 = .ok (.goto 4, 3)) ∧ True := dkW [(20, .goto 4, 3)] 20 (by decide +kernel)
theorem dX12_given_20 : decode cX12_given 20 = .ok (.goto 4, 3) := dgX12_given_20.1
theorem dX12_given_23 : decode cX12_given 23 = .ok (.iconst (-1), 1) := by decide +kernel
theorem dgX12_given_24 : (decode cX12_given 24 = .ok (.ireturn, 1)) ∧ True := dkW [(24, .ireturn, 1)] 24 (by decide +kernel)
theorem dX12_given_24 : decode cX12_given 24 = .ok (.ireturn, 1) := dgX12_given_24.1
abbrev rmX12_given : Room := { frames := 1, cells := 0, slots := 0, locals := 22 }
noncomputable def fX12_given_b24 (N : Nat)  (t : Nat) (h : Hs) (u0 : Int32) : Option (Int32 × Hs) :=
  some (u0, h)
set_option maxHeartbeats 4000000 in
set_option maxRecDepth 20000 in
theorem wX12_given_b24 {p : Program} {l : Launch} {e : Env} {s : State} {m : MethodId} {args : Array Value} {below : List Frame} {meth : Method} {c : Code} {G : Gl} {N : Nat} {h : Hs} {r : Int32 × Hs}  {t : Nat} {u0 : Int32} (C : Cx p s m args meth c cX12_given RX12 2 G) (hret : meth.sig.returnType = (some .int))  (hf : fX12_given_b24 N  t h u0 = some r) : V p l e rmX12_given s m args below meth c G 2 (MQ below (QcG G (some (.inl r.1)) r.2) args s rmX12_given.cells rmX12_given.slots (AG G)) h 0 0 24 [some (.inr (some t)), none] [.inl u0] := by
  unfold fX12_given_b24 at hf
  exact r_iretF C dX12_given_24 hret hf (by decide) (by decide)
noncomputable def fX12_given (N : Nat) (h : Hs) (t : Nat) (p1 : Int32) : Option (Int32 × Hs) :=
  (oI 12 63 h (some t)).bind fun v1 =>
  (fX12_in N h p1 0 (v1 - 1)).bind fun r2 =>
  if r2.1 = 0 then (
  fX12_given_b24 N t r2.2 (-1))
  else (oR 12 64 r2.2 (some t)).bind fun o3 =>
  (lA 20 r2.2 o3 p1).bind fun v4 =>
  fX12_given_b24 N t r2.2 v4
set_option maxHeartbeats 4000000 in
set_option maxRecDepth 20000 in
theorem kX12_given (l : Launch) (G : Gl) {N : Nat} {h : Hs} {t : Nat} {p1 : Int32} {r : Int32 × Hs} (hf : fX12_given N h t p1 = some r) : CT l G yX12_given cX12_given 2 (some .int) rmX12_given [.inr (some t), .inl p1] h (some (.inl r.1)) r.2 := by
  refine mk_CT (by decide) (Nat.le_of_ble_eq_true rfl) ?_
  intro p e s m args below meth c C hret hin
  unfold fX12_given at hf
  refine r_iload_n C dX12_given_0 rfl ?_
  refine r_iconst (v := 0) C dX12_given_1 (by decide) ?_
  refine r_aload_n C dX12_given_2 rfl ?_
  obtain ⟨v1, ev1, hf⟩ := bS hf
  refine r_getI C dX12_given_3 fl_X12_308 rfl ev1 ?_
  refine r_iconst (v := 1) C dX12_given_6 (by decide) ?_
  refine r_isub C dX12_given_7 ?_
  obtain ⟨r2, er2, hf⟩ := bS hf
  refine r_invS1 (As := [.inl p1, .inl 0, .inl (v1 - 1)]) C dX12_given_8 mcX12_in wd_1185 wd_1186 ⟨by decide, by decide⟩ ⟨by decide, by decide⟩ rfl (Nat.le_of_ble_eq_true rfl) (kX12_in l G er2) ?_
  refine r_if_eq (tgt := 23) C dX12_given_11 (by decide) (fun hc => ?_) (fun hc => ?_)
  · have hf := ifT hf hc
    refine r_iconst (v := -1) C dX12_given_23 (by decide) ?_
    exact V.sub (wX12_given_b24 C hret hf) (LW_s rfl (LW_n (LW_e)))
  · have hf := ifF hf hc
    refine r_aload_n C dX12_given_14 rfl ?_
    obtain ⟨o3, eo3, hf⟩ := bS hf
    refine r_getR C dX12_given_15 fl_X12_140 rfl eo3 ?_
    refine r_iload_n C dX12_given_18 rfl ?_
    obtain ⟨v4, ev4, hf⟩ := bS hf
    refine r_iald C dX12_given_19 ev4 ?_
    refine r_goto (tgt := 24) C dX12_given_20 (by decide) ?_
    exact V.sub (wX12_given_b24 C hret hf) (LW_s rfl (LW_n (LW_e)))
