theorem dgX0_init_0 : (decode cX0_init 0 = .ok (.aload_n 0, 1)) ∧ (decode cX0_init 1 = .ok (.invokespecial 3, 3)) ∧ (decode cX0_init 4 = .ok (.aload_n 0, 1)) ∧ (decode cX0_init 5 = .ok (.bipush 60, 2)) ∧ (decode cX0_init 7 = .ok (.newarray .int, 2)) ∧ (decode cX0_init 9 = .ok (.putfield 9, 3)) ∧ (decode cX0_init 12 = .ok (.aload_n 0, 1)) ∧ (decode cX0_init 13 = .ok (.bipush 60, 2)) ∧ (decode cX0_init 15 = .ok (.newarray .int, 2)) ∧ (decode cX0_init 17 = .ok (.putfield 15, 3)) ∧ (decode cX0_init 20 = .ok (.return_, 1)) ∧ True := dkW [(0, .aload_n 0, 1), (1, .invokespecial 3, 3), (4, .aload_n 0, 1), (5, .bipush 60, 2), (7, .newarray .int, 2), (9, .putfield 9, 3), (12, .aload_n 0, 1), (13, .bipush 60, 2), (15, .newarray .int, 2), (17, .putfield 15, 3), (20, .return_, 1)] 0 (by decide +kernel)
theorem dX0_init_0 : decode cX0_init 0 = .ok (.aload_n 0, 1) := dgX0_init_0.1
theorem dX0_init_1 : decode cX0_init 1 = .ok (.invokespecial 3, 3) := dgX0_init_0.2.1
theorem dX0_init_4 : decode cX0_init 4 = .ok (.aload_n 0, 1) := dgX0_init_0.2.2.1
theorem dX0_init_5 : decode cX0_init 5 = .ok (.bipush 60, 2) := dgX0_init_0.2.2.2.1
theorem dX0_init_7 : decode cX0_init 7 = .ok (.newarray .int, 2) := dgX0_init_0.2.2.2.2.1
theorem dX0_init_9 : decode cX0_init 9 = .ok (.putfield 9, 3) := dgX0_init_0.2.2.2.2.2.1
theorem dX0_init_12 : decode cX0_init 12 = .ok (.aload_n 0, 1) := dgX0_init_0.2.2.2.2.2.2.1
theorem dX0_init_13 : decode cX0_init 13 = .ok (.bipush 60, 2) := dgX0_init_0.2.2.2.2.2.2.2.1
theorem dX0_init_15 : decode cX0_init 15 = .ok (.newarray .int, 2) := dgX0_init_0.2.2.2.2.2.2.2.2.1
theorem dX0_init_17 : decode cX0_init 17 = .ok (.putfield 15, 3) := dgX0_init_0.2.2.2.2.2.2.2.2.2.1
theorem dX0_init_20 : decode cX0_init 20 = .ok (.return_, 1) := dgX0_init_0.2.2.2.2.2.2.2.2.2.2.1
abbrev rmX0_init : Room := { frames := 1, cells := 2, slots := 120, locals := 12 }
noncomputable def fX0_init (N : Nat) (h : Hs) (t : Nat)  : Option (Hs) :=
  (some (nw h (20, 60))).bind fun h1 =>
  (qR 0 0 h1 (some t) (some (sz h))).bind fun h2 =>
  (some (nw h2 (20, 60))).bind fun h3 =>
  (qR 0 1 h3 (some t) (some (sz h2))).bind fun h4 =>
  some h4
set_option maxHeartbeats 4000000 in
set_option maxRecDepth 20000 in
theorem kX0_init (l : Launch) (G : Gl) {N : Nat} {h : Hs} {t : Nat}  {r : Hs} (hf : fX0_init N h t  = some r) : CT l G yX0_init cX0_init 1 none rmX0_init [.inr (some t)] h (none) r := by
  refine mk_CT (by decide) (Nat.le_of_ble_eq_true rfl) ?_
  intro p e s m args below meth c C hret hin
  unfold fX0_init at hf
  refine r_aload_n C dX0_init_0 rfl ?_
  refine r_objInit C dX0_init_1 wd_68 wd_24 wd_25 (by decide) (Nat.le_of_ble_eq_true rfl) ?_
  refine r_aload_n C dX0_init_4 rfl ?_
  refine r_bipush (v := 60) C dX0_init_5 (by decide) ?_
  obtain ⟨h1, eh1, hf⟩ := bS hf
  cases eh1
  refine r_newA (t := 0) (N := 60) C dX0_init_7 (by decide) rfl rfl wd_62 (by decide) (by decide) (by decide) (fun _ _ q => q) (by decide) (by decide) ?_
  obtain ⟨h2, eh2, hf⟩ := bS hf
  refine r_putR C dX0_init_9 fl_X0_9 (Or.inr ⟨ff_0_0, hin⟩) rfl eh2 ?_
  refine r_aload_n C dX0_init_12 rfl ?_
  refine r_bipush (v := 60) C dX0_init_13 (by decide) ?_
  obtain ⟨h3, eh3, hf⟩ := bS hf
  cases eh3
  refine r_newA (t := 0) (N := 60) C dX0_init_15 (by decide) rfl rfl wd_62 (by decide) (by decide) (by decide) (fun _ _ q => q) (by decide) (by decide) ?_
  obtain ⟨h4, eh4, hf⟩ := bS hf
  refine r_putR C dX0_init_17 fl_X0_15 (Or.inr ⟨ff_0_1, hin⟩) rfl eh4 ?_
  exact r_vretF C dX0_init_20 hret hf (by decide) (by decide)

theorem dgX11_isWithin_0 : (decode cX11_isWithin 0 = .ok (.iload_n 1, 1)) ∧ (decode cX11_isWithin 1 = .ok (.iload_n 0, 1)) ∧ (decode cX11_isWithin 2 = .ok (.if_icmp .gt 12, 3)) ∧ (decode cX11_isWithin 5 = .ok (.iload_n 0, 1)) ∧ (decode cX11_isWithin 6 = .ok (.iload_n 2, 1)) ∧ (decode cX11_isWithin 7 = .ok (.if_icmp .gt 7, 3)) ∧ (decode cX11_isWithin 10 = .ok (.iconst 1, 1)) ∧ (decode cX11_isWithin 11 = .ok (.goto 4, 3)) ∧ (decode cX11_isWithin 14 = .ok (.iconst 0, 1)) ∧ (decode cX11_isWithin 15 = .ok (.ireturn, 1)) ∧ True := dkW [(0, .iload_n 1, 1), (1, .iload_n 0, 1), (2, .if_icmp .gt 12, 3), (5, .iload_n 0, 1), (6, .iload_n 2, 1), (7, .if_icmp .gt 7, 3), (10, .iconst 1, 1), (11, .goto 4, 3), (14, .iconst 0, 1), (15, .ireturn, 1)] 0 (by decide +kernel)
theorem dX11_isWithin_0 : decode cX11_isWithin 0 = .ok (.iload_n 1, 1) := dgX11_isWithin_0.1
theorem dX11_isWithin_1 : decode cX11_isWithin 1 = .ok (.iload_n 0, 1) := dgX11_isWithin_0.2.1
theorem dX11_isWithin_2 : decode cX11_isWithin 2 = .ok (.if_icmp .gt 12, 3) := dgX11_isWithin_0.2.2.1
theorem dX11_isWithin_5 : decode cX11_isWithin 5 = .ok (.iload_n 0, 1) := dgX11_isWithin_0.2.2.2.1
theorem dX11_isWithin_6 : decode cX11_isWithin 6 = .ok (.iload_n 2, 1) := dgX11_isWithin_0.2.2.2.2.1
theorem dX11_isWithin_7 : decode cX11_isWithin 7 = .ok (.if_icmp .gt 7, 3) := dgX11_isWithin_0.2.2.2.2.2.1
theorem dX11_isWithin_10 : decode cX11_isWithin 10 = .ok (.iconst 1, 1) := dgX11_isWithin_0.2.2.2.2.2.2.1
theorem dX11_isWithin_11 : decode cX11_isWithin 11 = .ok (.goto 4, 3) := dgX11_isWithin_0.2.2.2.2.2.2.2.1
theorem dX11_isWithin_14 : decode cX11_isWithin 14 = .ok (.iconst 0, 1) := dgX11_isWithin_0.2.2.2.2.2.2.2.2.1
theorem dX11_isWithin_15 : decode cX11_isWithin 15 = .ok (.ireturn, 1) := dgX11_isWithin_0.2.2.2.2.2.2.2.2.2.1
abbrev rmX11_isWithin : Room := { frames := 0, cells := 0, slots := 0, locals := 0 }
noncomputable def fX11_isWithin_b15 (N : Nat)  (h : Hs) (u0 : Int32) : Option (Int32 × Hs) :=
  (zc u0).bind fun z1 =>
  some (z1, h)
set_option maxHeartbeats 4000000 in
set_option maxRecDepth 20000 in
theorem wX11_isWithin_b15 {p : Program} {l : Launch} {e : Env} {s : State} {m : MethodId} {args : Array Value} {below : List Frame} {meth : Method} {c : Code} {G : Gl} {N : Nat} {h : Hs} {r : Int32 × Hs}  {u0 : Int32} (C : Cx p s m args meth c cX11_isWithin RX11 3 G) (hret : meth.sig.returnType = (some .boolean))  (hf : fX11_isWithin_b15 N  h u0 = some r) : V p l e rmX11_isWithin s m args below meth c G 3 (MQ below (QcG G (some (.inl r.1)) r.2) args s rmX11_isWithin.cells rmX11_isWithin.slots (AG G)) h 0 0 15 [none, none, none] [.inl u0] := by
  unfold fX11_isWithin_b15 at hf
  obtain ⟨z1, ez1, hf⟩ := bS hf
  exact r_zretF C dX11_isWithin_15 hret ez1 hf (by decide) (by decide)
noncomputable def fX11_isWithin_b14 (N : Nat)  (h : Hs)  : Option (Int32 × Hs) :=
  fX11_isWithin_b15 N h 0
set_option maxHeartbeats 4000000 in
set_option maxRecDepth 20000 in
theorem wX11_isWithin_b14 {p : Program} {l : Launch} {e : Env} {s : State} {m : MethodId} {args : Array Value} {below : List Frame} {meth : Method} {c : Code} {G : Gl} {N : Nat} {h : Hs} {r : Int32 × Hs}   (C : Cx p s m args meth c cX11_isWithin RX11 3 G) (hret : meth.sig.returnType = (some .boolean))  (hf : fX11_isWithin_b14 N  h  = some r) : V p l e rmX11_isWithin s m args below meth c G 3 (MQ below (QcG G (some (.inl r.1)) r.2) args s rmX11_isWithin.cells rmX11_isWithin.slots (AG G)) h 0 0 14 [none, none, none] [] := by
  unfold fX11_isWithin_b14 at hf
  refine r_iconst (v := 0) C dX11_isWithin_14 (by decide) ?_
  exact V.sub (wX11_isWithin_b15 C hret hf) (LW_n (LW_n (LW_n (LW_e))))
noncomputable def fX11_isWithin (N : Nat) (h : Hs) (p0 : Int32) (p1 : Int32) (p2 : Int32) : Option (Int32 × Hs) :=
  if p0 < p1 then (
  fX11_isWithin_b14 N h)
  else if p2 < p0 then (
  fX11_isWithin_b14 N h)
  else fX11_isWithin_b15 N h 1
set_option maxHeartbeats 4000000 in
set_option maxRecDepth 20000 in
theorem kX11_isWithin (l : Launch) (G : Gl) {N : Nat} {h : Hs} {p0 : Int32} {p1 : Int32} {p2 : Int32} {r : Int32 × Hs} (hf : fX11_isWithin N h p0 p1 p2 = some r) : CT l G yX11_isWithin cX11_isWithin 3 (some .boolean) rmX11_isWithin [.inl p0, .inl p1, .inl p2] h (some (.inl r.1)) r.2 := by
  refine mk_CT (by decide) (Nat.le_of_ble_eq_true rfl) ?_
  intro p e s m args below meth c C hret hin
  unfold fX11_isWithin at hf
  refine r_iload_n C dX11_isWithin_0 rfl ?_
  refine r_iload_n C dX11_isWithin_1 rfl ?_
  refine r_icmp_gt (tgt := 14) C dX11_isWithin_2 (by decide) (fun hc => ?_) (fun hc => ?_)
  · have hf := ifT hf hc
    exact V.sub (wX11_isWithin_b14 C hret hf) (LW_n (LW_n (LW_n (LW_e))))
  · have hf := ifF hf hc
    refine r_iload_n C dX11_isWithin_5 rfl ?_
    refine r_iload_n C dX11_isWithin_6 rfl ?_
    refine r_icmp_gt (tgt := 14) C dX11_isWithin_7 (by decide) (fun hc => ?_) (fun hc => ?_)
    · have hf := ifT hf hc
      exact V.sub (wX11_isWithin_b14 C hret hf) (LW_n (LW_n (LW_n (LW_e))))
    · have hf := ifF hf hc
      refine r_iconst (v := 1) C dX11_isWithin_10 (by decide) ?_
      refine r_goto (tgt := 15) C dX11_isWithin_11 (by decide) ?_
      exact V.sub (wX11_isWithin_b15 C hret hf) (LW_n (LW_n (LW_n (LW_e))))

theorem dgX0_add_0 : (decode cX0_add 0 = .ok (.iload_n 1, 1)) ∧ (decode cX0_add 1 = .ok (.iconst 1, 1)) ∧ (decode cX0_add 2 = .ok (.sipush 300, 3)) ∧ (decode cX0_add 5 = .ok (.invokestatic 18, 3)) ∧ (decode cX0_add 8 = .ok (.ifCond .ne 5, 3)) ∧ True := dkW [(0, .iload_n 1, 1), (1, .iconst 1, 1), (2, .sipush 300, 3), (5, .invokestatic 18, 3), (8, .ifCond .ne 5, 3)] 0 (by decide +kernel)
theorem dX0_add_0 : decode cX0_add 0 = .ok (.iload_n 1, 1) := dgX0_add_0.1
theorem dX0_add_1 : decode cX0_add 1 = .ok (.iconst 1, 1) := dgX0_add_0.2.1
theorem dX0_add_2 : decode cX0_add 2 = .ok (.sipush 300, 3) := dgX0_add_0.2.2.1
theorem dX0_add_5 : decode cX0_add 5 = .ok (.invokestatic 18, 3) := dgX0_add_0.2.2.2.1
theorem dX0_add_8 : decode cX0_add 8 = .ok (.ifCond .ne 5, 3) := dgX0_add_0.2.2.2.2.1
theorem dX0_add_11 : decode cX0_add 11 = .ok (.iconst (-1), 1) := by decide +kernel
theorem dgX0_add_12 : (decode cX0_add 12 = .ok (.ireturn, 1)) ∧ (decode cX0_add 13 = .ok (.aload_n 0, 1)) ∧ (decode cX0_add 14 = .ok (.getfield 22, 3)) ∧ (decode cX0_add 17 = .ok (.bipush 60, 2)) ∧ (decode cX0_add 19 = .ok (.if_icmp .lt 6, 3)) ∧ (decode cX0_add 22 = .ok (.bipush (-3), 2)) ∧ (decode cX0_add 24 = .ok (.ireturn, 1)) ∧ (decode cX0_add 25 = .ok (.aload_n 0, 1)) ∧ (decode cX0_add 26 = .ok (.getfield 9, 3)) ∧ (decode cX0_add 29 = .ok (.aload_n 0, 1)) ∧ (decode cX0_add 30 = .ok (.getfield 22, 3)) ∧ (decode cX0_add 33 = .ok (.iload_n 1, 1)) ∧ True := dkW [(12, .ireturn, 1), (13, .aload_n 0, 1), (14, .getfield 22, 3), (17, .bipush 60, 2), (19, .if_icmp .lt 6, 3), (22, .bipush (-3), 2), (24, .ireturn, 1), (25, .aload_n 0, 1), (26, .getfield 9, 3), (29, .aload_n 0, 1), (30, .getfield 22, 3), (33, .iload_n 1, 1)] 12 (by decide +kernel)
theorem dX0_add_12 : decode cX0_add 12 = .ok (.ireturn, 1) := dgX0_add_12.1
theorem dX0_add_13 : decode cX0_add 13 = .ok (.aload_n 0, 1) := dgX0_add_12.2.1
theorem dX0_add_14 : decode cX0_add 14 = .ok (.getfield 22, 3) := dgX0_add_12.2.2.1
theorem dX0_add_17 : decode cX0_add 17 = .ok (.bipush 60, 2) := dgX0_add_12.2.2.2.1
theorem dX0_add_19 : decode cX0_add 19 = .ok (.if_icmp .lt 6, 3) := dgX0_add_12.2.2.2.2.1
theorem dX0_add_22 : decode cX0_add 22 = .ok (.bipush (-3), 2) := dgX0_add_12.2.2.2.2.2.1
theorem dX0_add_24 : decode cX0_add 24 = .ok (.ireturn, 1) := dgX0_add_12.2.2.2.2.2.2.1
theorem dX0_add_25 : decode cX0_add 25 = .ok (.aload_n 0, 1) := dgX0_add_12.2.2.2.2.2.2.2.1
theorem dX0_add_26 : decode cX0_add 26 = .ok (.getfield 9, 3) := dgX0_add_12.2.2.2.2.2.2.2.2.1
theorem dX0_add_29 : decode cX0_add 29 = .ok (.aload_n 0, 1) := dgX0_add_12.2.2.2.2.2.2.2.2.2.1
theorem dX0_add_30 : decode cX0_add 30 = .ok (.getfield 22, 3) := dgX0_add_12.2.2.2.2.2.2.2.2.2.2.1
theorem dX0_add_33 : decode cX0_add 33 = .ok (.iload_n 1, 1) := dgX0_add_12.2.2.2.2.2.2.2.2.2.2.2.1
theorem dgX0_add_34 : (decode cX0_add 34 = .ok (.iastore, 1)) ∧ (decode cX0_add 35 = .ok (.aload_n 0, 1)) ∧ (decode cX0_add 36 = .ok (.getfield 15, 3)) ∧ (decode cX0_add 39 = .ok (.aload_n 0, 1)) ∧ (decode cX0_add 40 = .ok (.getfield 22, 3)) ∧ (decode cX0_add 43 = .ok (.aload_n 0, 1)) ∧ (decode cX0_add 44 = .ok (.getfield 26, 3)) ∧ (decode cX0_add 47 = .ok (.iload_n 1, 1)) ∧ (decode cX0_add 48 = .ok (.iadd, 1)) ∧ (decode cX0_add 49 = .ok (.iastore, 1)) ∧ (decode cX0_add 50 = .ok (.aload_n 0, 1)) ∧ (decode cX0_add 51 = .ok (.dup, 1)) ∧ True := dkW [(34, .iastore, 1), (35, .aload_n 0, 1), (36, .getfield 15, 3), (39, .aload_n 0, 1), (40, .getfield 22, 3), (43, .aload_n 0, 1), (44, .getfield 26, 3), (47, .iload_n 1, 1), (48, .iadd, 1), (49, .iastore, 1), (50, .aload_n 0, 1), (51, .dup, 1)] 34 (by decide +kernel)
theorem dX0_add_34 : decode cX0_add 34 = .ok (.iastore, 1) := dgX0_add_34.1
theorem dX0_add_35 : decode cX0_add 35 = .ok (.aload_n 0, 1) := dgX0_add_34.2.1
theorem dX0_add_36 : decode cX0_add 36 = .ok (.getfield 15, 3) := dgX0_add_34.2.2.1
theorem dX0_add_39 : decode cX0_add 39 = .ok (.aload_n 0, 1) := dgX0_add_34.2.2.2.1
theorem dX0_add_40 : decode cX0_add 40 = .ok (.getfield 22, 3) := dgX0_add_34.2.2.2.2.1
theorem dX0_add_43 : decode cX0_add 43 = .ok (.aload_n 0, 1) := dgX0_add_34.2.2.2.2.2.1
theorem dX0_add_44 : decode cX0_add 44 = .ok (.getfield 26, 3) := dgX0_add_34.2.2.2.2.2.2.1
theorem dX0_add_47 : decode cX0_add 47 = .ok (.iload_n 1, 1) := dgX0_add_34.2.2.2.2.2.2.2.1
theorem dX0_add_48 : decode cX0_add 48 = .ok (.iadd, 1) := dgX0_add_34.2.2.2.2.2.2.2.2.1
theorem dX0_add_49 : decode cX0_add 49 = .ok (.iastore, 1) := dgX0_add_34.2.2.2.2.2.2.2.2.2.1
theorem dX0_add_50 : decode cX0_add 50 = .ok (.aload_n 0, 1) := dgX0_add_34.2.2.2.2.2.2.2.2.2.2.1
theorem dX0_add_51 : decode cX0_add 51 = .ok (.dup, 1) := dgX0_add_34.2.2.2.2.2.2.2.2.2.2.2.1
theorem dgX0_add_52 : (decode cX0_add 52 = .ok (.getfield 22, 3)) ∧ (decode cX0_add 55 = .ok (.dup_x1, 1)) ∧ (decode cX0_add 56 = .ok (.iconst 1, 1)) ∧ (decode cX0_add 57 = .ok (.iadd, 1)) ∧ (decode cX0_add 58 = .ok (.putfield 22, 3)) ∧ (decode cX0_add 61 = .ok (.ireturn, 1)) ∧ True := dkW [(52, .getfield 22, 3), (55, .dup_x1, 1), (56, .iconst 1, 1), (57, .iadd, 1), (58, .putfield 22, 3), (61, .ireturn, 1)] 52 (by decide +kernel)
theorem dX0_add_52 : decode cX0_add 52 = .ok (.getfield 22, 3) := dgX0_add_52.1
theorem dX0_add_55 : decode cX0_add 55 = .ok (.dup_x1, 1) := dgX0_add_52.2.1
theorem dX0_add_56 : decode cX0_add 56 = .ok (.iconst 1, 1) := dgX0_add_52.2.2.1
theorem dX0_add_57 : decode cX0_add 57 = .ok (.iadd, 1) := dgX0_add_52.2.2.2.1
theorem dX0_add_58 : decode cX0_add 58 = .ok (.putfield 22, 3) := dgX0_add_52.2.2.2.2.1
theorem dX0_add_61 : decode cX0_add 61 = .ok (.ireturn, 1) := dgX0_add_52.2.2.2.2.2.1
abbrev rmX0_add : Room := { frames := 1, cells := 0, slots := 0, locals := 22 }
noncomputable def fX0_add (N : Nat) (h : Hs) (t : Nat) (p1 : Int32) : Option (Int32 × Hs) :=
  (fX11_isWithin N h p1 1 300).bind fun r1 =>
  if r1.1 = 0 then (
  some ((-1), r1.2))
  else (oI 0 2 r1.2 (some t)).bind fun v2 =>
  if v2 < 60 then (
  (oR 0 0 r1.2 (some t)).bind fun o3 =>
  (oI 0 2 r1.2 (some t)).bind fun v4 =>
  (sA r1.2 o3 v4 p1).bind fun h5 =>
  (oR 0 1 h5 (some t)).bind fun o6 =>
  (oI 0 2 h5 (some t)).bind fun v7 =>
  (oI 0 3 h5 (some t)).bind fun v8 =>
  (sA h5 o6 v7 (v8 + p1)).bind fun h9 =>
  (oI 0 2 h9 (some t)).bind fun v10 =>
  (qI 0 2 h9 (some t) (v10 + 1)).bind fun h11 =>
  some (v10, h11))
  else some ((-3), r1.2)
set_option maxHeartbeats 4000000 in
set_option maxRecDepth 20000 in
theorem kX0_add (l : Launch) (G : Gl) {N : Nat} {h : Hs} {t : Nat} {p1 : Int32} {r : Int32 × Hs} (hf : fX0_add N h t p1 = some r) : CT l G yX0_add cX0_add 2 (some .int) rmX0_add [.inr (some t), .inl p1] h (some (.inl r.1)) r.2 := by
  refine mk_CT (by decide) (Nat.le_of_ble_eq_true rfl) ?_
  intro p e s m args below meth c C hret hin
  unfold fX0_add at hf
  refine r_iload_n C dX0_add_0 rfl ?_
  refine r_iconst (v := 1) C dX0_add_1 (by decide) ?_
  refine r_sipush (v := 300) C dX0_add_2 (by decide) ?_
  obtain ⟨r1, er1, hf⟩ := bS hf
  refine r_invSN1 (As := [.inl p1, .inl 1, .inl 300]) (host := "StageMachine") C dX0_add_5 mcX11_isWithin (by decide) wd_291 ⟨by decide, by decide⟩ ⟨by decide, by decide⟩ rfl (Nat.le_of_ble_eq_true rfl) (kX11_isWithin l G er1) ?_
  refine r_if_ne (tgt := 13) C dX0_add_8 (by decide) (fun hc => ?_) (fun hc => ?_)
  · have hf := ifF hf hc
    refine r_aload_n C dX0_add_13 rfl ?_
    obtain ⟨v2, ev2, hf⟩ := bS hf
    refine r_getI C dX0_add_14 fl_X0_22 rfl ev2 ?_
    refine r_bipush (v := 60) C dX0_add_17 (by decide) ?_
    refine r_icmp_lt (tgt := 25) C dX0_add_19 (by decide) (fun hc => ?_) (fun hc => ?_)
    · have hf := ifT hf hc
      refine r_aload_n C dX0_add_25 rfl ?_
      obtain ⟨o3, eo3, hf⟩ := bS hf
      refine r_getR C dX0_add_26 fl_X0_9 rfl eo3 ?_
      refine r_aload_n C dX0_add_29 rfl ?_
      obtain ⟨v4, ev4, hf⟩ := bS hf
      refine r_getI C dX0_add_30 fl_X0_22 rfl ev4 ?_
      refine r_iload_n C dX0_add_33 rfl ?_
      obtain ⟨h5, eh5, hf⟩ := bS hf
      refine r_iast C dX0_add_34 eh5 ?_
      refine r_aload_n C dX0_add_35 rfl ?_
      obtain ⟨o6, eo6, hf⟩ := bS hf
      refine r_getR C dX0_add_36 fl_X0_15 rfl eo6 ?_
      refine r_aload_n C dX0_add_39 rfl ?_
      obtain ⟨v7, ev7, hf⟩ := bS hf
      refine r_getI C dX0_add_40 fl_X0_22 rfl ev7 ?_
      refine r_aload_n C dX0_add_43 rfl ?_
      obtain ⟨v8, ev8, hf⟩ := bS hf
      refine r_getI C dX0_add_44 fl_X0_26 rfl ev8 ?_
      refine r_iload_n C dX0_add_47 rfl ?_
      refine r_iadd C dX0_add_48 ?_
      obtain ⟨h9, eh9, hf⟩ := bS hf
      refine r_iast C dX0_add_49 eh9 ?_
      refine r_aload_n C dX0_add_50 rfl ?_
      refine r_dup C dX0_add_51 ?_
      obtain ⟨v10, ev10, hf⟩ := bS hf
      refine r_getI C dX0_add_52 fl_X0_22 rfl ev10 ?_
      refine r_dup_x1 C dX0_add_55 ?_
      refine r_iconst (v := 1) C dX0_add_56 (by decide) ?_
      refine r_iadd C dX0_add_57 ?_
      obtain ⟨h11, eh11, hf⟩ := bS hf
      refine r_putI C dX0_add_58 fl_X0_22 (Or.inl fn_0_2) rfl eh11 ?_
      exact r_iretF C dX0_add_61 hret hf (by decide) (by decide)
    · have hf := ifF hf hc
      refine r_bipush (v := -3) C dX0_add_22 (by decide) ?_
      exact r_iretF C dX0_add_24 hret hf (by decide) (by decide)
  · have hf := ifT hf hc
    refine r_iconst (v := -1) C dX0_add_11 (by decide) ?_
    exact r_iretF C dX0_add_12 hret hf (by decide) (by decide)

theorem dgX0_pass_0 : (decode cX0_pass 0 = .ok (.iload_n 1, 1)) ∧ (decode cX0_pass 1 = .ok (.iconst 1, 1)) ∧ (decode cX0_pass 2 = .ok (.sipush 1000, 3)) ∧ (decode cX0_pass 5 = .ok (.invokestatic 18, 3)) ∧ (decode cX0_pass 8 = .ok (.ifCond .eq 15, 3)) ∧ (decode cX0_pass 11 = .ok (.aload_n 0, 1)) ∧ (decode cX0_pass 12 = .ok (.getfield 26, 3)) ∧ (decode cX0_pass 15 = .ok (.iload_n 1, 1)) ∧ (decode cX0_pass 16 = .ok (.iadd, 1)) ∧ (decode cX0_pass 17 = .ok (.sipush 9999, 3)) ∧ (decode cX0_pass 20 = .ok (.if_icmp .le 5, 3)) ∧ True := dkW [(0, .iload_n 1, 1), (1, .iconst 1, 1), (2, .sipush 1000, 3), (5, .invokestatic 18, 3), (8, .ifCond .eq 15, 3), (11, .aload_n 0, 1), (12, .getfield 26, 3), (15, .iload_n 1, 1), (16, .iadd, 1), (17, .sipush 9999, 3), (20, .if_icmp .le 5, 3)] 0 (by decide +kernel)
theorem dX0_pass_0 : decode cX0_pass 0 = .ok (.iload_n 1, 1) := dgX0_pass_0.1
theorem dX0_pass_1 : decode cX0_pass 1 = .ok (.iconst 1, 1) := dgX0_pass_0.2.1
theorem dX0_pass_2 : decode cX0_pass 2 = .ok (.sipush 1000, 3) := dgX0_pass_0.2.2.1
theorem dX0_pass_5 : decode cX0_pass 5 = .ok (.invokestatic 18, 3) := dgX0_pass_0.2.2.2.1
theorem dX0_pass_8 : decode cX0_pass 8 = .ok (.ifCond .eq 15, 3) := dgX0_pass_0.2.2.2.2.1
theorem dX0_pass_11 : decode cX0_pass 11 = .ok (.aload_n 0, 1) := dgX0_pass_0.2.2.2.2.2.1
theorem dX0_pass_12 : decode cX0_pass 12 = .ok (.getfield 26, 3) := dgX0_pass_0.2.2.2.2.2.2.1
theorem dX0_pass_15 : decode cX0_pass 15 = .ok (.iload_n 1, 1) := dgX0_pass_0.2.2.2.2.2.2.2.1
theorem dX0_pass_16 : decode cX0_pass 16 = .ok (.iadd, 1) := dgX0_pass_0.2.2.2.2.2.2.2.2.1
theorem dX0_pass_17 : decode cX0_pass 17 = .ok (.sipush 9999, 3) := dgX0_pass_0.2.2.2.2.2.2.2.2.2.1
theorem dX0_pass_20 : decode cX0_pass 20 = .ok (.if_icmp .le 5, 3) := dgX0_pass_0.2.2.2.2.2.2.2.2.2.2.1
theorem dX0_pass_23 : decode cX0_pass 23 = .ok (.iconst (-1), 1) := by decide +kernel
theorem dgX0_pass_24 : (decode cX0_pass 24 = .ok (.ireturn, 1)) ∧ (decode cX0_pass 25 = .ok (.aload_n 0, 1)) ∧ (decode cX0_pass 26 = .ok (.dup, 1)) ∧ (decode cX0_pass 27 = .ok (.getfield 26, 3)) ∧ (decode cX0_pass 30 = .ok (.iload_n 1, 1)) ∧ (decode cX0_pass 31 = .ok (.iadd, 1)) ∧ (decode cX0_pass 32 = .ok (.putfield 26, 3)) ∧ (decode cX0_pass 35 = .ok (.aload_n 0, 1)) ∧ (decode cX0_pass 36 = .ok (.getfield 26, 3)) ∧ (decode cX0_pass 39 = .ok (.ireturn, 1)) ∧ True := dkW [(24, .ireturn, 1), (25, .aload_n 0, 1), (26, .dup, 1), (27, .getfield 26, 3), (30, .iload_n 1, 1), (31, .iadd, 1), (32, .putfield 26, 3), (35, .aload_n 0, 1), (36, .getfield 26, 3), (39, .ireturn, 1)] 24 (by decide +kernel)
theorem dX0_pass_24 : decode cX0_pass 24 = .ok (.ireturn, 1) := dgX0_pass_24.1
theorem dX0_pass_25 : decode cX0_pass 25 = .ok (.aload_n 0, 1) := dgX0_pass_24.2.1
theorem dX0_pass_26 : decode cX0_pass 26 = .ok (.dup, 1) := dgX0_pass_24.2.2.1
theorem dX0_pass_27 : decode cX0_pass 27 = .ok (.getfield 26, 3) := dgX0_pass_24.2.2.2.1
theorem dX0_pass_30 : decode cX0_pass 30 = .ok (.iload_n 1, 1) := dgX0_pass_24.2.2.2.2.1
theorem dX0_pass_31 : decode cX0_pass 31 = .ok (.iadd, 1) := dgX0_pass_24.2.2.2.2.2.1
theorem dX0_pass_32 : decode cX0_pass 32 = .ok (.putfield 26, 3) := dgX0_pass_24.2.2.2.2.2.2.1
theorem dX0_pass_35 : decode cX0_pass 35 = .ok (.aload_n 0, 1) := dgX0_pass_24.2.2.2.2.2.2.2.1
theorem dX0_pass_36 : decode cX0_pass 36 = .ok (.getfield 26, 3) := dgX0_pass_24.2.2.2.2.2.2.2.2.1
theorem dX0_pass_39 : decode cX0_pass 39 = .ok (.ireturn, 1) := dgX0_pass_24.2.2.2.2.2.2.2.2.2.1
abbrev rmX0_pass : Room := { frames := 1, cells := 0, slots := 0, locals := 22 }
noncomputable def fX0_pass_b23 (N : Nat)  (t : Nat) (h : Hs)  : Option (Int32 × Hs) :=
  some ((-1), h)
set_option maxHeartbeats 4000000 in
set_option maxRecDepth 20000 in
theorem wX0_pass_b23 {p : Program} {l : Launch} {e : Env} {s : State} {m : MethodId} {args : Array Value} {below : List Frame} {meth : Method} {c : Code} {G : Gl} {N : Nat} {h : Hs} {r : Int32 × Hs}  {t : Nat}  (C : Cx p s m args meth c cX0_pass RX0 2 G) (hret : meth.sig.returnType = (some .int))  (hf : fX0_pass_b23 N  t h  = some r) : V p l e rmX0_pass s m args below meth c G 2 (MQ below (QcG G (some (.inl r.1)) r.2) args s rmX0_pass.cells rmX0_pass.slots (AG G)) h 0 0 23 [some (.inr (some t)), none] [] := by
  unfold fX0_pass_b23 at hf
  refine r_iconst (v := -1) C dX0_pass_23 (by decide) ?_
  exact r_iretF C dX0_pass_24 hret hf (by decide) (by decide)
noncomputable def fX0_pass (N : Nat) (h : Hs) (t : Nat) (p1 : Int32) : Option (Int32 × Hs) :=
  (fX11_isWithin N h p1 1 1000).bind fun r1 =>
  if r1.1 = 0 then (
  fX0_pass_b23 N t r1.2)
  else (oI 0 3 r1.2 (some t)).bind fun v2 =>
  if (v2 + p1) ≤ 9999 then (
  (oI 0 3 r1.2 (some t)).bind fun v3 =>
  (qI 0 3 r1.2 (some t) (v3 + p1)).bind fun h4 =>
  (oI 0 3 h4 (some t)).bind fun v5 =>
  some (v5, h4))
  else fX0_pass_b23 N t r1.2
set_option maxHeartbeats 4000000 in
set_option maxRecDepth 20000 in
theorem kX0_pass (l : Launch) (G : Gl) {N : Nat} {h : Hs} {t : Nat} {p1 : Int32} {r : Int32 × Hs} (hf : fX0_pass N h t p1 = some r) : CT l G yX0_pass cX0_pass 2 (some .int) rmX0_pass [.inr (some t), .inl p1] h (some (.inl r.1)) r.2 := by
  refine mk_CT (by decide) (Nat.le_of_ble_eq_true rfl) ?_
  intro p e s m args below meth c C hret hin
  unfold fX0_pass at hf
  refine r_iload_n C dX0_pass_0 rfl ?_
  refine r_iconst (v := 1) C dX0_pass_1 (by decide) ?_
  refine r_sipush (v := 1000) C dX0_pass_2 (by decide) ?_
  obtain ⟨r1, er1, hf⟩ := bS hf
  refine r_invSN1 (As := [.inl p1, .inl 1, .inl 1000]) (host := "StageMachine") C dX0_pass_5 mcX11_isWithin (by decide) wd_291 ⟨by decide, by decide⟩ ⟨by decide, by decide⟩ rfl (Nat.le_of_ble_eq_true rfl) (kX11_isWithin l G er1) ?_
  refine r_if_eq (tgt := 23) C dX0_pass_8 (by decide) (fun hc => ?_) (fun hc => ?_)
  · have hf := ifT hf hc
    exact V.sub (wX0_pass_b23 C hret hf) (LW_s rfl (LW_n (LW_e)))
  · have hf := ifF hf hc
    refine r_aload_n C dX0_pass_11 rfl ?_
    obtain ⟨v2, ev2, hf⟩ := bS hf
    refine r_getI C dX0_pass_12 fl_X0_26 rfl ev2 ?_
    refine r_iload_n C dX0_pass_15 rfl ?_
    refine r_iadd C dX0_pass_16 ?_
    refine r_sipush (v := 9999) C dX0_pass_17 (by decide) ?_
    refine r_icmp_le (tgt := 25) C dX0_pass_20 (by decide) (fun hc => ?_) (fun hc => ?_)
    · have hf := ifT hf hc
      refine r_aload_n C dX0_pass_25 rfl ?_
      refine r_dup C dX0_pass_26 ?_
      obtain ⟨v3, ev3, hf⟩ := bS hf
      refine r_getI C dX0_pass_27 fl_X0_26 rfl ev3 ?_
      refine r_iload_n C dX0_pass_30 rfl ?_
      refine r_iadd C dX0_pass_31 ?_
      obtain ⟨h4, eh4, hf⟩ := bS hf
      refine r_putI C dX0_pass_32 fl_X0_26 (Or.inl fn_0_3) rfl eh4 ?_
      refine r_aload_n C dX0_pass_35 rfl ?_
      obtain ⟨v5, ev5, hf⟩ := bS hf
      refine r_getI C dX0_pass_36 fl_X0_26 rfl ev5 ?_
      exact r_iretF C dX0_pass_39 hret hf (by decide) (by decide)
    · have hf := ifF hf hc
      exact V.sub (wX0_pass_b23 C hret hf) (LW_s rfl (LW_n (LW_e)))

theorem dgX0_renew_0 : (decode cX0_renew 0 = .ok (.iload_n 1, 1)) ∧ (decode cX0_renew 1 = .ok (.iconst 0, 1)) ∧ (decode cX0_renew 2 = .ok (.sipush 300, 3)) ∧ (decode cX0_renew 5 = .ok (.invokestatic 18, 3)) ∧ (decode cX0_renew 8 = .ok (.ifCond .ne 5, 3)) ∧ True := dkW [(0, .iload_n 1, 1), (1, .iconst 0, 1), (2, .sipush 300, 3), (5, .invokestatic 18, 3), (8, .ifCond .ne 5, 3)] 0 (by decide +kernel)
theorem dX0_renew_0 : decode cX0_renew 0 = .ok (.iload_n 1, 1) := dgX0_renew_0.1
theorem dX0_renew_1 : decode cX0_renew 1 = .ok (.iconst 0, 1) := dgX0_renew_0.2.1
theorem dX0_renew_2 : decode cX0_renew 2 = .ok (.sipush 300, 3) := dgX0_renew_0.2.2.1
theorem dX0_renew_5 : decode cX0_renew 5 = .ok (.invokestatic 18, 3) := dgX0_renew_0.2.2.2.1
theorem dX0_renew_8 : decode cX0_renew 8 = .ok (.ifCond .ne 5, 3) := dgX0_renew_0.2.2.2.2.1
theorem dX0_renew_11 : decode cX0_renew 11 = .ok (.iconst (-1), 1) := by decide +kernel
theorem dgX0_renew_12 : (decode cX0_renew 12 = .ok (.ireturn, 1)) ∧ (decode cX0_renew 13 = .ok (.iconst 0, 1)) ∧ (decode cX0_renew 14 = .ok (.istore_n 2, 1)) ∧ (decode cX0_renew 15 = .ok (.iconst 0, 1)) ∧ (decode cX0_renew 16 = .ok (.istore_n 3, 1)) ∧ (decode cX0_renew 17 = .ok (.iload_n 3, 1)) ∧ (decode cX0_renew 18 = .ok (.aload_n 0, 1)) ∧ (decode cX0_renew 19 = .ok (.getfield 22, 3)) ∧ (decode cX0_renew 22 = .ok (.if_icmp .ge 48, 3)) ∧ (decode cX0_renew 25 = .ok (.aload_n 0, 1)) ∧ (decode cX0_renew 26 = .ok (.getfield 15, 3)) ∧ (decode cX0_renew 29 = .ok (.iload_n 3, 1)) ∧ True := dkW [(12, .ireturn, 1), (13, .iconst 0, 1), (14, .istore_n 2, 1), (15, .iconst 0, 1), (16, .istore_n 3, 1), (17, .iload_n 3, 1), (18, .aload_n 0, 1), (19, .getfield 22, 3), (22, .if_icmp .ge 48, 3), (25, .aload_n 0, 1), (26, .getfield 15, 3), (29, .iload_n 3, 1)] 12 (by decide +kernel)
theorem dX0_renew_12 : decode cX0_renew 12 = .ok (.ireturn, 1) := dgX0_renew_12.1
theorem dX0_renew_13 : decode cX0_renew 13 = .ok (.iconst 0, 1) := dgX0_renew_12.2.1
theorem dX0_renew_14 : decode cX0_renew 14 = .ok (.istore_n 2, 1) := dgX0_renew_12.2.2.1
theorem dX0_renew_15 : decode cX0_renew 15 = .ok (.iconst 0, 1) := dgX0_renew_12.2.2.2.1
theorem dX0_renew_16 : decode cX0_renew 16 = .ok (.istore_n 3, 1) := dgX0_renew_12.2.2.2.2.1
theorem dX0_renew_17 : decode cX0_renew 17 = .ok (.iload_n 3, 1) := dgX0_renew_12.2.2.2.2.2.1
theorem dX0_renew_18 : decode cX0_renew 18 = .ok (.aload_n 0, 1) := dgX0_renew_12.2.2.2.2.2.2.1
theorem dX0_renew_19 : decode cX0_renew 19 = .ok (.getfield 22, 3) := dgX0_renew_12.2.2.2.2.2.2.2.1
theorem dX0_renew_22 : decode cX0_renew 22 = .ok (.if_icmp .ge 48, 3) := dgX0_renew_12.2.2.2.2.2.2.2.2.1
theorem dX0_renew_25 : decode cX0_renew 25 = .ok (.aload_n 0, 1) := dgX0_renew_12.2.2.2.2.2.2.2.2.2.1
theorem dX0_renew_26 : decode cX0_renew 26 = .ok (.getfield 15, 3) := dgX0_renew_12.2.2.2.2.2.2.2.2.2.2.1
theorem dX0_renew_29 : decode cX0_renew 29 = .ok (.iload_n 3, 1) := dgX0_renew_12.2.2.2.2.2.2.2.2.2.2.2.1
theorem dgX0_renew_30 : (decode cX0_renew 30 = .ok (.iaload, 1)) ∧ (decode cX0_renew 31 = .ok (.aload_n 0, 1)) ∧ (decode cX0_renew 32 = .ok (.getfield 26, 3)) ∧ (decode cX0_renew 35 = .ok (.isub, 1)) ∧ (decode cX0_renew 36 = .ok (.iconst 1, 1)) ∧ (decode cX0_renew 37 = .ok (.iload_n 1, 1)) ∧ (decode cX0_renew 38 = .ok (.invokestatic 18, 3)) ∧ (decode cX0_renew 41 = .ok (.ifCond .eq 23, 3)) ∧ (decode cX0_renew 44 = .ok (.aload_n 0, 1)) ∧ (decode cX0_renew 45 = .ok (.getfield 15, 3)) ∧ (decode cX0_renew 48 = .ok (.iload_n 3, 1)) ∧ (decode cX0_renew 49 = .ok (.aload_n 0, 1)) ∧ True := dkW [(30, .iaload, 1), (31, .aload_n 0, 1), (32, .getfield 26, 3), (35, .isub, 1), (36, .iconst 1, 1), (37, .iload_n 1, 1), (38, .invokestatic 18, 3), (41, .ifCond .eq 23, 3), (44, .aload_n 0, 1), (45, .getfield 15, 3), (48, .iload_n 3, 1), (49, .aload_n 0, 1)] 30 (by decide +kernel)
theorem dX0_renew_30 : decode cX0_renew 30 = .ok (.iaload, 1) := dgX0_renew_30.1
theorem dX0_renew_31 : decode cX0_renew 31 = .ok (.aload_n 0, 1) := dgX0_renew_30.2.1
theorem dX0_renew_32 : decode cX0_renew 32 = .ok (.getfield 26, 3) := dgX0_renew_30.2.2.1
theorem dX0_renew_35 : decode cX0_renew 35 = .ok (.isub, 1) := dgX0_renew_30.2.2.2.1
theorem dX0_renew_36 : decode cX0_renew 36 = .ok (.iconst 1, 1) := dgX0_renew_30.2.2.2.2.1
theorem dX0_renew_37 : decode cX0_renew 37 = .ok (.iload_n 1, 1) := dgX0_renew_30.2.2.2.2.2.1
theorem dX0_renew_38 : decode cX0_renew 38 = .ok (.invokestatic 18, 3) := dgX0_renew_30.2.2.2.2.2.2.1
theorem dX0_renew_41 : decode cX0_renew 41 = .ok (.ifCond .eq 23, 3) := dgX0_renew_30.2.2.2.2.2.2.2.1
theorem dX0_renew_44 : decode cX0_renew 44 = .ok (.aload_n 0, 1) := dgX0_renew_30.2.2.2.2.2.2.2.2.1
theorem dX0_renew_45 : decode cX0_renew 45 = .ok (.getfield 15, 3) := dgX0_renew_30.2.2.2.2.2.2.2.2.2.1
theorem dX0_renew_48 : decode cX0_renew 48 = .ok (.iload_n 3, 1) := dgX0_renew_30.2.2.2.2.2.2.2.2.2.2.1
theorem dX0_renew_49 : decode cX0_renew 49 = .ok (.aload_n 0, 1) := dgX0_renew_30.2.2.2.2.2.2.2.2.2.2.2.1
theorem dgX0_renew_50 : (decode cX0_renew 50 = .ok (.getfield 26, 3)) ∧ (decode cX0_renew 53 = .ok (.aload_n 0, 1)) ∧ (decode cX0_renew 54 = .ok (.getfield 9, 3)) ∧ (decode cX0_renew 57 = .ok (.iload_n 3, 1)) ∧ (decode cX0_renew 58 = .ok (.iaload, 1)) ∧ (decode cX0_renew 59 = .ok (.iadd, 1)) ∧ (decode cX0_renew 60 = .ok (.iastore, 1)) ∧ (decode cX0_renew 61 = .ok (.iinc 2 1, 3)) ∧ (decode cX0_renew 64 = .ok (.iinc 3 1, 3)) ∧ (decode cX0_renew 67 = .ok (.goto (-50), 3)) ∧ (decode cX0_renew 70 = .ok (.iload_n 2, 1)) ∧ (decode cX0_renew 71 = .ok (.ireturn, 1)) ∧ True := dkW [(50, .getfield 26, 3), (53, .aload_n 0, 1), (54, .getfield 9, 3), (57, .iload_n 3, 1), (58, .iaload, 1), (59, .iadd, 1), (60, .iastore, 1), (61, .iinc 2 1, 3), (64, .iinc 3 1, 3), (67, .goto (-50), 3), (70, .iload_n 2, 1), (71, .ireturn, 1)] 50 (by decide +kernel)
theorem dX0_renew_50 : decode cX0_renew 50 = .ok (.getfield 26, 3) := dgX0_renew_50.1
theorem dX0_renew_53 : decode cX0_renew 53 = .ok (.aload_n 0, 1) := dgX0_renew_50.2.1
theorem dX0_renew_54 : decode cX0_renew 54 = .ok (.getfield 9, 3) := dgX0_renew_50.2.2.1
theorem dX0_renew_57 : decode cX0_renew 57 = .ok (.iload_n 3, 1) := dgX0_renew_50.2.2.2.1
theorem dX0_renew_58 : decode cX0_renew 58 = .ok (.iaload, 1) := dgX0_renew_50.2.2.2.2.1
theorem dX0_renew_59 : decode cX0_renew 59 = .ok (.iadd, 1) := dgX0_renew_50.2.2.2.2.2.1
theorem dX0_renew_60 : decode cX0_renew 60 = .ok (.iastore, 1) := dgX0_renew_50.2.2.2.2.2.2.1
theorem dX0_renew_61 : decode cX0_renew 61 = .ok (.iinc 2 1, 3) := dgX0_renew_50.2.2.2.2.2.2.2.1
theorem dX0_renew_64 : decode cX0_renew 64 = .ok (.iinc 3 1, 3) := dgX0_renew_50.2.2.2.2.2.2.2.2.1
theorem dX0_renew_67 : decode cX0_renew 67 = .ok (.goto (-50), 3) := dgX0_renew_50.2.2.2.2.2.2.2.2.2.1
theorem dX0_renew_70 : decode cX0_renew 70 = .ok (.iload_n 2, 1) := dgX0_renew_50.2.2.2.2.2.2.2.2.2.2.1
theorem dX0_renew_71 : decode cX0_renew 71 = .ok (.ireturn, 1) := dgX0_renew_50.2.2.2.2.2.2.2.2.2.2.2.1
abbrev rmX0_renew : Room := { frames := 1, cells := 0, slots := 0, locals := 22 }
noncomputable def fX0_renew_b64 (N : Nat) (g17 : Hs → Int32 → Int32 → Int32 → Option (Int32 × Hs)) (t : Nat) (h : Hs) (x1 : Int32) (x2 : Int32) (x3 : Int32) : Option (Int32 × Hs) :=
  (some (x3 + 1)).bind fun y1 =>
  g17 h x1 x2 y1
set_option maxHeartbeats 4000000 in
set_option maxRecDepth 20000 in
theorem wX0_renew_b64 {p : Program} {l : Launch} {e : Env} {s : State} {m : MethodId} {args : Array Value} {below : List Frame} {meth : Method} {c : Code} {G : Gl} {N : Nat} {h : Hs} {r : Int32 × Hs} {g17 : Hs → Int32 → Int32 → Int32 → Option (Int32 × Hs)} {t : Nat} {x1 : Int32} {x2 : Int32} {x3 : Int32} (C : Cx p s m args meth c cX0_renew RX0 4 G) (hret : meth.sig.returnType = (some .int)) (hg17 : ∀ (h : Hs) (x1 : Int32) (x2 : Int32) (x3 : Int32), g17 h x1 x2 x3 = some r → V p l e rmX0_renew s m args below meth c G 4 (MQ below (QcG G (some (.inl r.1)) r.2) args s rmX0_renew.cells rmX0_renew.slots (AG G)) h 0 0 17 [some (.inr (some t)), some (.inl x1), some (.inl x2), some (.inl x3)] []) (hf : fX0_renew_b64 N g17 t h x1 x2 x3 = some r) : V p l e rmX0_renew s m args below meth c G 4 (MQ below (QcG G (some (.inl r.1)) r.2) args s rmX0_renew.cells rmX0_renew.slots (AG G)) h 0 0 64 [some (.inr (some t)), some (.inl x1), some (.inl x2), some (.inl x3)] [] := by
  unfold fX0_renew_b64 at hf
  obtain ⟨y1, ey1, hf⟩ := bS hf
  refine r_iincE (v := 1) C dX0_renew_64 rfl (by decide) (by decide) ey1 ?_
  refine r_goto (tgt := 17) C dX0_renew_67 (by decide) ?_
  exact V.sub (hg17 _ _ _ _ hf) (LW_s rfl (LW_s rfl (LW_s rfl (LW_s rfl (LW_e)))))
noncomputable def fX0_renew_b17_body (N : Nat)  (g17 : Hs → Int32 → Int32 → Int32 → Option (Int32 × Hs)) (t : Nat) (h : Hs) (x1 : Int32) (x2 : Int32) (x3 : Int32) : Option (Int32 × Hs) :=
  (oI 0 2 h (some t)).bind fun v1 =>
  if v1 ≤ x3 then (
  some (x2, h))
  else (oR 0 1 h (some t)).bind fun o2 =>
  (lA 20 h o2 x3).bind fun v3 =>
  (oI 0 3 h (some t)).bind fun v4 =>
  (fX11_isWithin N h (v3 - v4) 1 x1).bind fun r5 =>
  if r5.1 = 0 then (
  fX0_renew_b64 N g17 t r5.2 x1 x2 x3)
  else (oR 0 1 r5.2 (some t)).bind fun o6 =>
  (oI 0 3 r5.2 (some t)).bind fun v7 =>
  (oR 0 0 r5.2 (some t)).bind fun o8 =>
  (lA 20 r5.2 o8 x3).bind fun v9 =>
  (sA r5.2 o6 x3 (v7 + v9)).bind fun h10 =>
  (some (x2 + 1)).bind fun y11 =>
  fX0_renew_b64 N g17 t h10 x1 y11 x3
noncomputable def fX0_renew_b17 (N : Nat)  (t : Nat) (n : Nat) : Hs → Int32 → Int32 → Int32 → Option (Int32 × Hs) := lp (fun _ _ _ _ => none) (fun g h x1 x2 x3 => fX0_renew_b17_body N  g t h x1 x2 x3) n
set_option maxHeartbeats 4000000 in
set_option maxRecDepth 20000 in
theorem wX0_renew_b17_body {p : Program} {l : Launch} {e : Env} {s : State} {m : MethodId} {args : Array Value} {below : List Frame} {meth : Method} {c : Code} {G : Gl} {N : Nat} {h : Hs} {r : Int32 × Hs}  {g17 : Hs → Int32 → Int32 → Int32 → Option (Int32 × Hs)} {t : Nat} {x1 : Int32} {x2 : Int32} {x3 : Int32} (C : Cx p s m args meth c cX0_renew RX0 4 G) (hret : meth.sig.returnType = (some .int))  (hg17 : ∀ (h : Hs) (x1 : Int32) (x2 : Int32) (x3 : Int32), g17 h x1 x2 x3 = some r → V p l e rmX0_renew s m args below meth c G 4 (MQ below (QcG G (some (.inl r.1)) r.2) args s rmX0_renew.cells rmX0_renew.slots (AG G)) h 0 0 17 [some (.inr (some t)), some (.inl x1), some (.inl x2), some (.inl x3)] []) (hf : fX0_renew_b17_body N  g17 t h x1 x2 x3 = some r) : V p l e rmX0_renew s m args below meth c G 4 (MQ below (QcG G (some (.inl r.1)) r.2) args s rmX0_renew.cells rmX0_renew.slots (AG G)) h 0 0 17 [some (.inr (some t)), some (.inl x1), some (.inl x2), some (.inl x3)] [] := by
  unfold fX0_renew_b17_body at hf
  refine r_iload_n C dX0_renew_17 rfl ?_
  refine r_aload_n C dX0_renew_18 rfl ?_
  obtain ⟨v1, ev1, hf⟩ := bS hf
  refine r_getI C dX0_renew_19 fl_X0_22 rfl ev1 ?_
  refine r_icmp_ge (tgt := 70) C dX0_renew_22 (by decide) (fun hc => ?_) (fun hc => ?_)
  · have hf := ifT hf hc
    refine r_iload_n C dX0_renew_70 rfl ?_
    exact r_iretF C dX0_renew_71 hret hf (by decide) (by decide)
  · have hf := ifF hf hc
    refine r_aload_n C dX0_renew_25 rfl ?_
    obtain ⟨o2, eo2, hf⟩ := bS hf
    refine r_getR C dX0_renew_26 fl_X0_15 rfl eo2 ?_
    refine r_iload_n C dX0_renew_29 rfl ?_
    obtain ⟨v3, ev3, hf⟩ := bS hf
    refine r_iald C dX0_renew_30 ev3 ?_
    refine r_aload_n C dX0_renew_31 rfl ?_
    obtain ⟨v4, ev4, hf⟩ := bS hf
    refine r_getI C dX0_renew_32 fl_X0_26 rfl ev4 ?_
    refine r_isub C dX0_renew_35 ?_
    refine r_iconst (v := 1) C dX0_renew_36 (by decide) ?_
    refine r_iload_n C dX0_renew_37 rfl ?_
    obtain ⟨r5, er5, hf⟩ := bS hf
    refine r_invSN1 (As := [.inl (v3 - v4), .inl 1, .inl x1]) (host := "StageMachine") C dX0_renew_38 mcX11_isWithin (by decide) wd_291 ⟨by decide, by decide⟩ ⟨by decide, by decide⟩ rfl (Nat.le_of_ble_eq_true rfl) (kX11_isWithin l G er5) ?_
    refine r_if_eq (tgt := 64) C dX0_renew_41 (by decide) (fun hc => ?_) (fun hc => ?_)
    · have hf := ifT hf hc
      exact V.sub (wX0_renew_b64 C hret hg17 hf) (LW_s rfl (LW_s rfl (LW_s rfl (LW_s rfl (LW_e)))))
    · have hf := ifF hf hc
      refine r_aload_n C dX0_renew_44 rfl ?_
      obtain ⟨o6, eo6, hf⟩ := bS hf
      refine r_getR C dX0_renew_45 fl_X0_15 rfl eo6 ?_
      refine r_iload_n C dX0_renew_48 rfl ?_
      refine r_aload_n C dX0_renew_49 rfl ?_
      obtain ⟨v7, ev7, hf⟩ := bS hf
      refine r_getI C dX0_renew_50 fl_X0_26 rfl ev7 ?_
      refine r_aload_n C dX0_renew_53 rfl ?_
      obtain ⟨o8, eo8, hf⟩ := bS hf
      refine r_getR C dX0_renew_54 fl_X0_9 rfl eo8 ?_
      refine r_iload_n C dX0_renew_57 rfl ?_
      obtain ⟨v9, ev9, hf⟩ := bS hf
      refine r_iald C dX0_renew_58 ev9 ?_
      refine r_iadd C dX0_renew_59 ?_
      obtain ⟨h10, eh10, hf⟩ := bS hf
      refine r_iast C dX0_renew_60 eh10 ?_
      obtain ⟨y11, ey11, hf⟩ := bS hf
      refine r_iincE (v := 1) C dX0_renew_61 rfl (by decide) (by decide) ey11 ?_
      exact V.sub (wX0_renew_b64 C hret hg17 hf) (LW_s rfl (LW_s rfl (LW_s rfl (LW_s rfl (LW_e)))))
theorem wX0_renew_b17 {p : Program} {l : Launch} {e : Env} {s : State} {m : MethodId} {args : Array Value} {below : List Frame} {meth : Method} {c : Code} {G : Gl} {N : Nat} {r : Int32 × Hs}  {t : Nat} (C : Cx p s m args meth c cX0_renew RX0 4 G) (hret : meth.sig.returnType = (some .int))  : ∀ (n : Nat) (h : Hs) (x1 : Int32) (x2 : Int32) (x3 : Int32), fX0_renew_b17 N  t n h x1 x2 x3 = some r → V p l e rmX0_renew s m args below meth c G 4 (MQ below (QcG G (some (.inl r.1)) r.2) args s rmX0_renew.cells rmX0_renew.slots (AG G)) h 0 0 17 [some (.inr (some t)), some (.inl x1), some (.inl x2), some (.inl x3)] [] := by
  intro n
  induction n with
  | zero => intro h x1 x2 x3 hf; exact absurd (show (none : Option (Int32 × Hs)) = some r from hf) (fun q => by cases q)
  | succ n ih => intro h x1 x2 x3 hf; exact wX0_renew_b17_body C hret  ih (show fX0_renew_b17_body N  (fX0_renew_b17 N  t n) t h x1 x2 x3 = some r from hf)
noncomputable def fX0_renew (N : Nat) (h : Hs) (t : Nat) (p1 : Int32) : Option (Int32 × Hs) :=
  (fX11_isWithin N h p1 0 300).bind fun r1 =>
  if r1.1 = 0 then (
  some ((-1), r1.2))
  else fX0_renew_b17 N t N r1.2 p1 0 0
set_option maxHeartbeats 4000000 in
set_option maxRecDepth 20000 in
theorem kX0_renew (l : Launch) (G : Gl) {N : Nat} {h : Hs} {t : Nat} {p1 : Int32} {r : Int32 × Hs} (hf : fX0_renew N h t p1 = some r) : CT l G yX0_renew cX0_renew 4 (some .int) rmX0_renew [.inr (some t), .inl p1] h (some (.inl r.1)) r.2 := by
  refine mk_CT (by decide) (Nat.le_of_ble_eq_true rfl) ?_
  intro p e s m args below meth c C hret hin
  unfold fX0_renew at hf
  refine r_iload_n C dX0_renew_0 rfl ?_
  refine r_iconst (v := 0) C dX0_renew_1 (by decide) ?_
  refine r_sipush (v := 300) C dX0_renew_2 (by decide) ?_
  obtain ⟨r1, er1, hf⟩ := bS hf
  refine r_invSN1 (As := [.inl p1, .inl 0, .inl 300]) (host := "StageMachine") C dX0_renew_5 mcX11_isWithin (by decide) wd_291 ⟨by decide, by decide⟩ ⟨by decide, by decide⟩ rfl (Nat.le_of_ble_eq_true rfl) (kX11_isWithin l G er1) ?_
  refine r_if_ne (tgt := 13) C dX0_renew_8 (by decide) (fun hc => ?_) (fun hc => ?_)
  · have hf := ifF hf hc
    refine r_iconst (v := 0) C dX0_renew_13 (by decide) ?_
    refine r_istore_n C dX0_renew_14 (by decide) ?_
    refine r_iconst (v := 0) C dX0_renew_15 (by decide) ?_
    refine r_istore_n C dX0_renew_16 (by decide) ?_
    exact V.sub (wX0_renew_b17 C hret N _ _ _ _ hf) (LW_s rfl (LW_s rfl (LW_s rfl (LW_s rfl (LW_e)))))
  · have hf := ifT hf hc
    refine r_iconst (v := -1) C dX0_renew_11 (by decide) ?_
    exact r_iretF C dX0_renew_12 hret hf (by decide) (by decide)

theorem dgX0_burning_0 : (decode cX0_burning 0 = .ok (.iconst 0, 1)) ∧ (decode cX0_burning 1 = .ok (.istore_n 1, 1)) ∧ (decode cX0_burning 2 = .ok (.iconst 0, 1)) ∧ (decode cX0_burning 3 = .ok (.istore_n 2, 1)) ∧ (decode cX0_burning 4 = .ok (.iload_n 2, 1)) ∧ (decode cX0_burning 5 = .ok (.aload_n 0, 1)) ∧ (decode cX0_burning 6 = .ok (.getfield 22, 3)) ∧ (decode cX0_burning 9 = .ok (.if_icmp .ge 25, 3)) ∧ (decode cX0_burning 12 = .ok (.aload_n 0, 1)) ∧ (decode cX0_burning 13 = .ok (.getfield 15, 3)) ∧ (decode cX0_burning 16 = .ok (.iload_n 2, 1)) ∧ (decode cX0_burning 17 = .ok (.iaload, 1)) ∧ True := dkW [(0, .iconst 0, 1), (1, .istore_n 1, 1), (2, .iconst 0, 1), (3, .istore_n 2, 1), (4, .iload_n 2, 1), (5, .aload_n 0, 1), (6, .getfield 22, 3), (9, .if_icmp .ge 25, 3), (12, .aload_n 0, 1), (13, .getfield 15, 3), (16, .iload_n 2, 1), (17, .iaload, 1)] 0 (by decide +kernel)
theorem dX0_burning_0 : decode cX0_burning 0 = .ok (.iconst 0, 1) := dgX0_burning_0.1
theorem dX0_burning_1 : decode cX0_burning 1 = .ok (.istore_n 1, 1) := dgX0_burning_0.2.1
theorem dX0_burning_2 : decode cX0_burning 2 = .ok (.iconst 0, 1) := dgX0_burning_0.2.2.1
theorem dX0_burning_3 : decode cX0_burning 3 = .ok (.istore_n 2, 1) := dgX0_burning_0.2.2.2.1
theorem dX0_burning_4 : decode cX0_burning 4 = .ok (.iload_n 2, 1) := dgX0_burning_0.2.2.2.2.1
theorem dX0_burning_5 : decode cX0_burning 5 = .ok (.aload_n 0, 1) := dgX0_burning_0.2.2.2.2.2.1
theorem dX0_burning_6 : decode cX0_burning 6 = .ok (.getfield 22, 3) := dgX0_burning_0.2.2.2.2.2.2.1
theorem dX0_burning_9 : decode cX0_burning 9 = .ok (.if_icmp .ge 25, 3) := dgX0_burning_0.2.2.2.2.2.2.2.1
theorem dX0_burning_12 : decode cX0_burning 12 = .ok (.aload_n 0, 1) := dgX0_burning_0.2.2.2.2.2.2.2.2.1
theorem dX0_burning_13 : decode cX0_burning 13 = .ok (.getfield 15, 3) := dgX0_burning_0.2.2.2.2.2.2.2.2.2.1
theorem dX0_burning_16 : decode cX0_burning 16 = .ok (.iload_n 2, 1) := dgX0_burning_0.2.2.2.2.2.2.2.2.2.2.1
theorem dX0_burning_17 : decode cX0_burning 17 = .ok (.iaload, 1) := dgX0_burning_0.2.2.2.2.2.2.2.2.2.2.2.1
theorem dgX0_burning_18 : (decode cX0_burning 18 = .ok (.aload_n 0, 1)) ∧ (decode cX0_burning 19 = .ok (.getfield 26, 3)) ∧ (decode cX0_burning 22 = .ok (.if_icmp .le 6, 3)) ∧ (decode cX0_burning 25 = .ok (.iinc 1 1, 3)) ∧ (decode cX0_burning 28 = .ok (.iinc 2 1, 3)) ∧ (decode cX0_burning 31 = .ok (.goto (-27), 3)) ∧ (decode cX0_burning 34 = .ok (.iload_n 1, 1)) ∧ (decode cX0_burning 35 = .ok (.ireturn, 1)) ∧ True := dkW [(18, .aload_n 0, 1), (19, .getfield 26, 3), (22, .if_icmp .le 6, 3), (25, .iinc 1 1, 3), (28, .iinc 2 1, 3), (31, .goto (-27), 3), (34, .iload_n 1, 1), (35, .ireturn, 1)] 18 (by decide +kernel)
theorem dX0_burning_18 : decode cX0_burning 18 = .ok (.aload_n 0, 1) := dgX0_burning_18.1
theorem dX0_burning_19 : decode cX0_burning 19 = .ok (.getfield 26, 3) := dgX0_burning_18.2.1
theorem dX0_burning_22 : decode cX0_burning 22 = .ok (.if_icmp .le 6, 3) := dgX0_burning_18.2.2.1
theorem dX0_burning_25 : decode cX0_burning 25 = .ok (.iinc 1 1, 3) := dgX0_burning_18.2.2.2.1
theorem dX0_burning_28 : decode cX0_burning 28 = .ok (.iinc 2 1, 3) := dgX0_burning_18.2.2.2.2.1
theorem dX0_burning_31 : decode cX0_burning 31 = .ok (.goto (-27), 3) := dgX0_burning_18.2.2.2.2.2.1
theorem dX0_burning_34 : decode cX0_burning 34 = .ok (.iload_n 1, 1) := dgX0_burning_18.2.2.2.2.2.2.1
theorem dX0_burning_35 : decode cX0_burning 35 = .ok (.ireturn, 1) := dgX0_burning_18.2.2.2.2.2.2.2.1
abbrev rmX0_burning : Room := { frames := 0, cells := 0, slots := 0, locals := 0 }
noncomputable def fX0_burning_b28 (N : Nat) (g4 : Hs → Int32 → Int32 → Option (Int32 × Hs)) (t : Nat) (h : Hs) (x1 : Int32) (x2 : Int32) : Option (Int32 × Hs) :=
  (some (x2 + 1)).bind fun y1 =>
  g4 h x1 y1
set_option maxHeartbeats 4000000 in
set_option maxRecDepth 20000 in
theorem wX0_burning_b28 {p : Program} {l : Launch} {e : Env} {s : State} {m : MethodId} {args : Array Value} {below : List Frame} {meth : Method} {c : Code} {G : Gl} {N : Nat} {h : Hs} {r : Int32 × Hs} {g4 : Hs → Int32 → Int32 → Option (Int32 × Hs)} {t : Nat} {x1 : Int32} {x2 : Int32} (C : Cx p s m args meth c cX0_burning RX0 3 G) (hret : meth.sig.returnType = (some .int)) (hg4 : ∀ (h : Hs) (x1 : Int32) (x2 : Int32), g4 h x1 x2 = some r → V p l e rmX0_burning s m args below meth c G 3 (MQ below (QcG G (some (.inl r.1)) r.2) args s rmX0_burning.cells rmX0_burning.slots (AG G)) h 0 0 4 [some (.inr (some t)), some (.inl x1), some (.inl x2)] []) (hf : fX0_burning_b28 N g4 t h x1 x2 = some r) : V p l e rmX0_burning s m args below meth c G 3 (MQ below (QcG G (some (.inl r.1)) r.2) args s rmX0_burning.cells rmX0_burning.slots (AG G)) h 0 0 28 [some (.inr (some t)), some (.inl x1), some (.inl x2)] [] := by
  unfold fX0_burning_b28 at hf
  obtain ⟨y1, ey1, hf⟩ := bS hf
  refine r_iincE (v := 1) C dX0_burning_28 rfl (by decide) (by decide) ey1 ?_
  refine r_goto (tgt := 4) C dX0_burning_31 (by decide) ?_
  exact V.sub (hg4 _ _ _ hf) (LW_s rfl (LW_s rfl (LW_s rfl (LW_e))))
noncomputable def fX0_burning_b4_body (N : Nat)  (g4 : Hs → Int32 → Int32 → Option (Int32 × Hs)) (t : Nat) (h : Hs) (x1 : Int32) (x2 : Int32) : Option (Int32 × Hs) :=
  (oI 0 2 h (some t)).bind fun v1 =>
  if v1 ≤ x2 then (
  some (x1, h))
  else (oR 0 1 h (some t)).bind fun o2 =>
  (lA 20 h o2 x2).bind fun v3 =>
  (oI 0 3 h (some t)).bind fun v4 =>
  if v3 ≤ v4 then (
  fX0_burning_b28 N g4 t h x1 x2)
  else (some (x1 + 1)).bind fun y5 =>
  fX0_burning_b28 N g4 t h y5 x2
noncomputable def fX0_burning_b4 (N : Nat)  (t : Nat) (n : Nat) : Hs → Int32 → Int32 → Option (Int32 × Hs) := lp (fun _ _ _ => none) (fun g h x1 x2 => fX0_burning_b4_body N  g t h x1 x2) n
set_option maxHeartbeats 4000000 in
set_option maxRecDepth 20000 in
theorem wX0_burning_b4_body {p : Program} {l : Launch} {e : Env} {s : State} {m : MethodId} {args : Array Value} {below : List Frame} {meth : Method} {c : Code} {G : Gl} {N : Nat} {h : Hs} {r : Int32 × Hs}  {g4 : Hs → Int32 → Int32 → Option (Int32 × Hs)} {t : Nat} {x1 : Int32} {x2 : Int32} (C : Cx p s m args meth c cX0_burning RX0 3 G) (hret : meth.sig.returnType = (some .int))  (hg4 : ∀ (h : Hs) (x1 : Int32) (x2 : Int32), g4 h x1 x2 = some r → V p l e rmX0_burning s m args below meth c G 3 (MQ below (QcG G (some (.inl r.1)) r.2) args s rmX0_burning.cells rmX0_burning.slots (AG G)) h 0 0 4 [some (.inr (some t)), some (.inl x1), some (.inl x2)] []) (hf : fX0_burning_b4_body N  g4 t h x1 x2 = some r) : V p l e rmX0_burning s m args below meth c G 3 (MQ below (QcG G (some (.inl r.1)) r.2) args s rmX0_burning.cells rmX0_burning.slots (AG G)) h 0 0 4 [some (.inr (some t)), some (.inl x1), some (.inl x2)] [] := by
  unfold fX0_burning_b4_body at hf
  refine r_iload_n C dX0_burning_4 rfl ?_
  refine r_aload_n C dX0_burning_5 rfl ?_
  obtain ⟨v1, ev1, hf⟩ := bS hf
  refine r_getI C dX0_burning_6 fl_X0_22 rfl ev1 ?_
  refine r_icmp_ge (tgt := 34) C dX0_burning_9 (by decide) (fun hc => ?_) (fun hc => ?_)
  · have hf := ifT hf hc
    refine r_iload_n C dX0_burning_34 rfl ?_
    exact r_iretF C dX0_burning_35 hret hf (by decide) (by decide)
  · have hf := ifF hf hc
    refine r_aload_n C dX0_burning_12 rfl ?_
    obtain ⟨o2, eo2, hf⟩ := bS hf
    refine r_getR C dX0_burning_13 fl_X0_15 rfl eo2 ?_
    refine r_iload_n C dX0_burning_16 rfl ?_
    obtain ⟨v3, ev3, hf⟩ := bS hf
    refine r_iald C dX0_burning_17 ev3 ?_
    refine r_aload_n C dX0_burning_18 rfl ?_
    obtain ⟨v4, ev4, hf⟩ := bS hf
    refine r_getI C dX0_burning_19 fl_X0_26 rfl ev4 ?_
    refine r_icmp_le (tgt := 28) C dX0_burning_22 (by decide) (fun hc => ?_) (fun hc => ?_)
    · have hf := ifT hf hc
      exact V.sub (wX0_burning_b28 C hret hg4 hf) (LW_s rfl (LW_s rfl (LW_s rfl (LW_e))))
    · have hf := ifF hf hc
      obtain ⟨y5, ey5, hf⟩ := bS hf
      refine r_iincE (v := 1) C dX0_burning_25 rfl (by decide) (by decide) ey5 ?_
      exact V.sub (wX0_burning_b28 C hret hg4 hf) (LW_s rfl (LW_s rfl (LW_s rfl (LW_e))))
theorem wX0_burning_b4 {p : Program} {l : Launch} {e : Env} {s : State} {m : MethodId} {args : Array Value} {below : List Frame} {meth : Method} {c : Code} {G : Gl} {N : Nat} {r : Int32 × Hs}  {t : Nat} (C : Cx p s m args meth c cX0_burning RX0 3 G) (hret : meth.sig.returnType = (some .int))  : ∀ (n : Nat) (h : Hs) (x1 : Int32) (x2 : Int32), fX0_burning_b4 N  t n h x1 x2 = some r → V p l e rmX0_burning s m args below meth c G 3 (MQ below (QcG G (some (.inl r.1)) r.2) args s rmX0_burning.cells rmX0_burning.slots (AG G)) h 0 0 4 [some (.inr (some t)), some (.inl x1), some (.inl x2)] [] := by
  intro n
  induction n with
  | zero => intro h x1 x2 hf; exact absurd (show (none : Option (Int32 × Hs)) = some r from hf) (fun q => by cases q)
  | succ n ih => intro h x1 x2 hf; exact wX0_burning_b4_body C hret  ih (show fX0_burning_b4_body N  (fX0_burning_b4 N  t n) t h x1 x2 = some r from hf)
noncomputable def fX0_burning (N : Nat) (h : Hs) (t : Nat)  : Option (Int32 × Hs) :=
  fX0_burning_b4 N t N h 0 0
set_option maxHeartbeats 4000000 in
set_option maxRecDepth 20000 in
theorem kX0_burning (l : Launch) (G : Gl) {N : Nat} {h : Hs} {t : Nat}  {r : Int32 × Hs} (hf : fX0_burning N h t  = some r) : CT l G yX0_burning cX0_burning 3 (some .int) rmX0_burning [.inr (some t)] h (some (.inl r.1)) r.2 := by
  refine mk_CT (by decide) (Nat.le_of_ble_eq_true rfl) ?_
  intro p e s m args below meth c C hret hin
  unfold fX0_burning at hf
  refine r_iconst (v := 0) C dX0_burning_0 (by decide) ?_
  refine r_istore_n C dX0_burning_1 (by decide) ?_
  refine r_iconst (v := 0) C dX0_burning_2 (by decide) ?_
  refine r_istore_n C dX0_burning_3 (by decide) ?_
  exact V.sub (wX0_burning_b4 C hret N _ _ _ hf) (LW_s rfl (LW_s rfl (LW_s rfl (LW_e))))

theorem dX0_leastLeft_0 : decode cX0_leastLeft 0 = .ok (.iconst (-1), 1) := by decide +kernel
theorem dgX0_leastLeft_1 : (decode cX0_leastLeft 1 = .ok (.istore_n 1, 1)) ∧ (decode cX0_leastLeft 2 = .ok (.iconst 0, 1)) ∧ (decode cX0_leastLeft 3 = .ok (.istore_n 2, 1)) ∧ (decode cX0_leastLeft 4 = .ok (.iload_n 2, 1)) ∧ (decode cX0_leastLeft 5 = .ok (.aload_n 0, 1)) ∧ (decode cX0_leastLeft 6 = .ok (.getfield 22, 3)) ∧ (decode cX0_leastLeft 9 = .ok (.if_icmp .ge 36, 3)) ∧ (decode cX0_leastLeft 12 = .ok (.aload_n 0, 1)) ∧ (decode cX0_leastLeft 13 = .ok (.getfield 15, 3)) ∧ (decode cX0_leastLeft 16 = .ok (.iload_n 2, 1)) ∧ (decode cX0_leastLeft 17 = .ok (.iaload, 1)) ∧ (decode cX0_leastLeft 18 = .ok (.aload_n 0, 1)) ∧ True := dkW [(1, .istore_n 1, 1), (2, .iconst 0, 1), (3, .istore_n 2, 1), (4, .iload_n 2, 1), (5, .aload_n 0, 1), (6, .getfield 22, 3), (9, .if_icmp .ge 36, 3), (12, .aload_n 0, 1), (13, .getfield 15, 3), (16, .iload_n 2, 1), (17, .iaload, 1), (18, .aload_n 0, 1)] 1 (by decide +kernel)
theorem dX0_leastLeft_1 : decode cX0_leastLeft 1 = .ok (.istore_n 1, 1) := dgX0_leastLeft_1.1
theorem dX0_leastLeft_2 : decode cX0_leastLeft 2 = .ok (.iconst 0, 1) := dgX0_leastLeft_1.2.1
theorem dX0_leastLeft_3 : decode cX0_leastLeft 3 = .ok (.istore_n 2, 1) := dgX0_leastLeft_1.2.2.1
theorem dX0_leastLeft_4 : decode cX0_leastLeft 4 = .ok (.iload_n 2, 1) := dgX0_leastLeft_1.2.2.2.1
theorem dX0_leastLeft_5 : decode cX0_leastLeft 5 = .ok (.aload_n 0, 1) := dgX0_leastLeft_1.2.2.2.2.1
theorem dX0_leastLeft_6 : decode cX0_leastLeft 6 = .ok (.getfield 22, 3) := dgX0_leastLeft_1.2.2.2.2.2.1
theorem dX0_leastLeft_9 : decode cX0_leastLeft 9 = .ok (.if_icmp .ge 36, 3) := dgX0_leastLeft_1.2.2.2.2.2.2.1
theorem dX0_leastLeft_12 : decode cX0_leastLeft 12 = .ok (.aload_n 0, 1) := dgX0_leastLeft_1.2.2.2.2.2.2.2.1
theorem dX0_leastLeft_13 : decode cX0_leastLeft 13 = .ok (.getfield 15, 3) := dgX0_leastLeft_1.2.2.2.2.2.2.2.2.1
theorem dX0_leastLeft_16 : decode cX0_leastLeft 16 = .ok (.iload_n 2, 1) := dgX0_leastLeft_1.2.2.2.2.2.2.2.2.2.1
theorem dX0_leastLeft_17 : decode cX0_leastLeft 17 = .ok (.iaload, 1) := dgX0_leastLeft_1.2.2.2.2.2.2.2.2.2.2.1
theorem dX0_leastLeft_18 : decode cX0_leastLeft 18 = .ok (.aload_n 0, 1) := dgX0_leastLeft_1.2.2.2.2.2.2.2.2.2.2.2.1
theorem dgX0_leastLeft_19 : (decode cX0_leastLeft 19 = .ok (.getfield 26, 3)) ∧ (decode cX0_leastLeft 22 = .ok (.isub, 1)) ∧ (decode cX0_leastLeft 23 = .ok (.istore_n 3, 1)) ∧ (decode cX0_leastLeft 24 = .ok (.iload_n 3, 1)) ∧ (decode cX0_leastLeft 25 = .ok (.ifCond .le 14, 3)) ∧ (decode cX0_leastLeft 28 = .ok (.iload_n 1, 1)) ∧ (decode cX0_leastLeft 29 = .ok (.ifCond .lt 8, 3)) ∧ (decode cX0_leastLeft 32 = .ok (.iload_n 3, 1)) ∧ (decode cX0_leastLeft 33 = .ok (.iload_n 1, 1)) ∧ (decode cX0_leastLeft 34 = .ok (.if_icmp .ge 5, 3)) ∧ (decode cX0_leastLeft 37 = .ok (.iload_n 3, 1)) ∧ (decode cX0_leastLeft 38 = .ok (.istore_n 1, 1)) ∧ True := dkW [(19, .getfield 26, 3), (22, .isub, 1), (23, .istore_n 3, 1), (24, .iload_n 3, 1), (25, .ifCond .le 14, 3), (28, .iload_n 1, 1), (29, .ifCond .lt 8, 3), (32, .iload_n 3, 1), (33, .iload_n 1, 1), (34, .if_icmp .ge 5, 3), (37, .iload_n 3, 1), (38, .istore_n 1, 1)] 19 (by decide +kernel)
theorem dX0_leastLeft_19 : decode cX0_leastLeft 19 = .ok (.getfield 26, 3) := dgX0_leastLeft_19.1
theorem dX0_leastLeft_22 : decode cX0_leastLeft 22 = .ok (.isub, 1) := dgX0_leastLeft_19.2.1
theorem dX0_leastLeft_23 : decode cX0_leastLeft 23 = .ok (.istore_n 3, 1) := dgX0_leastLeft_19.2.2.1
theorem dX0_leastLeft_24 : decode cX0_leastLeft 24 = .ok (.iload_n 3, 1) := dgX0_leastLeft_19.2.2.2.1
theorem dX0_leastLeft_25 : decode cX0_leastLeft 25 = .ok (.ifCond .le 14, 3) := dgX0_leastLeft_19.2.2.2.2.1
theorem dX0_leastLeft_28 : decode cX0_leastLeft 28 = .ok (.iload_n 1, 1) := dgX0_leastLeft_19.2.2.2.2.2.1
theorem dX0_leastLeft_29 : decode cX0_leastLeft 29 = .ok (.ifCond .lt 8, 3) := dgX0_leastLeft_19.2.2.2.2.2.2.1
theorem dX0_leastLeft_32 : decode cX0_leastLeft 32 = .ok (.iload_n 3, 1) := dgX0_leastLeft_19.2.2.2.2.2.2.2.1
theorem dX0_leastLeft_33 : decode cX0_leastLeft 33 = .ok (.iload_n 1, 1) := dgX0_leastLeft_19.2.2.2.2.2.2.2.2.1
theorem dX0_leastLeft_34 : decode cX0_leastLeft 34 = .ok (.if_icmp .ge 5, 3) := dgX0_leastLeft_19.2.2.2.2.2.2.2.2.2.1
theorem dX0_leastLeft_37 : decode cX0_leastLeft 37 = .ok (.iload_n 3, 1) := dgX0_leastLeft_19.2.2.2.2.2.2.2.2.2.2.1
theorem dX0_leastLeft_38 : decode cX0_leastLeft 38 = .ok (.istore_n 1, 1) := dgX0_leastLeft_19.2.2.2.2.2.2.2.2.2.2.2.1
theorem dgX0_leastLeft_39 : (decode cX0_leastLeft 39 = .ok (.iinc 2 1, 3)) ∧ (decode cX0_leastLeft 42 = .ok (.goto (-38), 3)) ∧ (decode cX0_leastLeft 45 = .ok (.iload_n 1, 1)) ∧ (decode cX0_leastLeft 46 = .ok (.ireturn, 1)) ∧ True := dkW [(39, .iinc 2 1, 3), (42, .goto (-38), 3), (45, .iload_n 1, 1), (46, .ireturn, 1)] 39 (by decide +kernel)
theorem dX0_leastLeft_39 : decode cX0_leastLeft 39 = .ok (.iinc 2 1, 3) := dgX0_leastLeft_39.1
theorem dX0_leastLeft_42 : decode cX0_leastLeft 42 = .ok (.goto (-38), 3) := dgX0_leastLeft_39.2.1
theorem dX0_leastLeft_45 : decode cX0_leastLeft 45 = .ok (.iload_n 1, 1) := dgX0_leastLeft_39.2.2.1
theorem dX0_leastLeft_46 : decode cX0_leastLeft 46 = .ok (.ireturn, 1) := dgX0_leastLeft_39.2.2.2.1
abbrev rmX0_leastLeft : Room := { frames := 0, cells := 0, slots := 0, locals := 0 }
noncomputable def fX0_leastLeft_b39 (N : Nat) (g4 : Hs → Int32 → Int32 → Option (Int32 × Hs)) (t : Nat) (h : Hs) (x1 : Int32) (x2 : Int32) : Option (Int32 × Hs) :=
  (some (x2 + 1)).bind fun y1 =>
  g4 h x1 y1
set_option maxHeartbeats 4000000 in
set_option maxRecDepth 20000 in
theorem wX0_leastLeft_b39 {p : Program} {l : Launch} {e : Env} {s : State} {m : MethodId} {args : Array Value} {below : List Frame} {meth : Method} {c : Code} {G : Gl} {N : Nat} {h : Hs} {r : Int32 × Hs} {g4 : Hs → Int32 → Int32 → Option (Int32 × Hs)} {t : Nat} {x1 : Int32} {x2 : Int32} (C : Cx p s m args meth c cX0_leastLeft RX0 4 G) (hret : meth.sig.returnType = (some .int)) (hg4 : ∀ (h : Hs) (x1 : Int32) (x2 : Int32), g4 h x1 x2 = some r → V p l e rmX0_leastLeft s m args below meth c G 4 (MQ below (QcG G (some (.inl r.1)) r.2) args s rmX0_leastLeft.cells rmX0_leastLeft.slots (AG G)) h 0 0 4 [some (.inr (some t)), some (.inl x1), some (.inl x2), none] []) (hf : fX0_leastLeft_b39 N g4 t h x1 x2 = some r) : V p l e rmX0_leastLeft s m args below meth c G 4 (MQ below (QcG G (some (.inl r.1)) r.2) args s rmX0_leastLeft.cells rmX0_leastLeft.slots (AG G)) h 0 0 39 [some (.inr (some t)), some (.inl x1), some (.inl x2), none] [] := by
  unfold fX0_leastLeft_b39 at hf
  obtain ⟨y1, ey1, hf⟩ := bS hf
  refine r_iincE (v := 1) C dX0_leastLeft_39 rfl (by decide) (by decide) ey1 ?_
  refine r_goto (tgt := 4) C dX0_leastLeft_42 (by decide) ?_
  exact V.sub (hg4 _ _ _ hf) (LW_s rfl (LW_s rfl (LW_s rfl (LW_n (LW_e)))))
noncomputable def fX0_leastLeft_b37 (N : Nat) (g4 : Hs → Int32 → Int32 → Option (Int32 × Hs)) (t : Nat) (h : Hs) (x2 : Int32) (x3 : Int32) : Option (Int32 × Hs) :=
  fX0_leastLeft_b39 N g4 t h x3 x2
set_option maxHeartbeats 4000000 in
set_option maxRecDepth 20000 in
theorem wX0_leastLeft_b37 {p : Program} {l : Launch} {e : Env} {s : State} {m : MethodId} {args : Array Value} {below : List Frame} {meth : Method} {c : Code} {G : Gl} {N : Nat} {h : Hs} {r : Int32 × Hs} {g4 : Hs → Int32 → Int32 → Option (Int32 × Hs)} {t : Nat} {x2 : Int32} {x3 : Int32} (C : Cx p s m args meth c cX0_leastLeft RX0 4 G) (hret : meth.sig.returnType = (some .int)) (hg4 : ∀ (h : Hs) (x1 : Int32) (x2 : Int32), g4 h x1 x2 = some r → V p l e rmX0_leastLeft s m args below meth c G 4 (MQ below (QcG G (some (.inl r.1)) r.2) args s rmX0_leastLeft.cells rmX0_leastLeft.slots (AG G)) h 0 0 4 [some (.inr (some t)), some (.inl x1), some (.inl x2), none] []) (hf : fX0_leastLeft_b37 N g4 t h x2 x3 = some r) : V p l e rmX0_leastLeft s m args below meth c G 4 (MQ below (QcG G (some (.inl r.1)) r.2) args s rmX0_leastLeft.cells rmX0_leastLeft.slots (AG G)) h 0 0 37 [some (.inr (some t)), none, some (.inl x2), some (.inl x3)] [] := by
  unfold fX0_leastLeft_b37 at hf
  refine r_iload_n C dX0_leastLeft_37 rfl ?_
  refine r_istore_n C dX0_leastLeft_38 (by decide) ?_
  exact V.sub (wX0_leastLeft_b39 C hret hg4 hf) (LW_s rfl (LW_s rfl (LW_s rfl (LW_n (LW_e)))))
noncomputable def fX0_leastLeft_b4_body (N : Nat)  (g4 : Hs → Int32 → Int32 → Option (Int32 × Hs)) (t : Nat) (h : Hs) (x1 : Int32) (x2 : Int32) : Option (Int32 × Hs) :=
  (oI 0 2 h (some t)).bind fun v1 =>
  if v1 ≤ x2 then (
  some (x1, h))
  else (oR 0 1 h (some t)).bind fun o2 =>
  (lA 20 h o2 x2).bind fun v3 =>
  (oI 0 3 h (some t)).bind fun v4 =>
  (some (v3 - v4)).bind fun y5 =>
  if y5 ≤ 0 then (
  fX0_leastLeft_b39 N g4 t h x1 x2)
  else if x1 < 0 then (
  fX0_leastLeft_b37 N g4 t h x2 y5)
  else if x1 ≤ y5 then (
  fX0_leastLeft_b39 N g4 t h x1 x2)
  else fX0_leastLeft_b37 N g4 t h x2 y5
noncomputable def fX0_leastLeft_b4 (N : Nat)  (t : Nat) (n : Nat) : Hs → Int32 → Int32 → Option (Int32 × Hs) := lp (fun _ _ _ => none) (fun g h x1 x2 => fX0_leastLeft_b4_body N  g t h x1 x2) n
set_option maxHeartbeats 4000000 in
set_option maxRecDepth 20000 in
theorem wX0_leastLeft_b4_body {p : Program} {l : Launch} {e : Env} {s : State} {m : MethodId} {args : Array Value} {below : List Frame} {meth : Method} {c : Code} {G : Gl} {N : Nat} {h : Hs} {r : Int32 × Hs}  {g4 : Hs → Int32 → Int32 → Option (Int32 × Hs)} {t : Nat} {x1 : Int32} {x2 : Int32} (C : Cx p s m args meth c cX0_leastLeft RX0 4 G) (hret : meth.sig.returnType = (some .int))  (hg4 : ∀ (h : Hs) (x1 : Int32) (x2 : Int32), g4 h x1 x2 = some r → V p l e rmX0_leastLeft s m args below meth c G 4 (MQ below (QcG G (some (.inl r.1)) r.2) args s rmX0_leastLeft.cells rmX0_leastLeft.slots (AG G)) h 0 0 4 [some (.inr (some t)), some (.inl x1), some (.inl x2), none] []) (hf : fX0_leastLeft_b4_body N  g4 t h x1 x2 = some r) : V p l e rmX0_leastLeft s m args below meth c G 4 (MQ below (QcG G (some (.inl r.1)) r.2) args s rmX0_leastLeft.cells rmX0_leastLeft.slots (AG G)) h 0 0 4 [some (.inr (some t)), some (.inl x1), some (.inl x2), none] [] := by
  unfold fX0_leastLeft_b4_body at hf
  refine r_iload_n C dX0_leastLeft_4 rfl ?_
  refine r_aload_n C dX0_leastLeft_5 rfl ?_
  obtain ⟨v1, ev1, hf⟩ := bS hf
  refine r_getI C dX0_leastLeft_6 fl_X0_22 rfl ev1 ?_
  refine r_icmp_ge (tgt := 45) C dX0_leastLeft_9 (by decide) (fun hc => ?_) (fun hc => ?_)
  · have hf := ifT hf hc
    refine r_iload_n C dX0_leastLeft_45 rfl ?_
    exact r_iretF C dX0_leastLeft_46 hret hf (by decide) (by decide)
  · have hf := ifF hf hc
    refine r_aload_n C dX0_leastLeft_12 rfl ?_
    obtain ⟨o2, eo2, hf⟩ := bS hf
    refine r_getR C dX0_leastLeft_13 fl_X0_15 rfl eo2 ?_
    refine r_iload_n C dX0_leastLeft_16 rfl ?_
    obtain ⟨v3, ev3, hf⟩ := bS hf
    refine r_iald C dX0_leastLeft_17 ev3 ?_
    refine r_aload_n C dX0_leastLeft_18 rfl ?_
    obtain ⟨v4, ev4, hf⟩ := bS hf
    refine r_getI C dX0_leastLeft_19 fl_X0_26 rfl ev4 ?_
    refine r_isub C dX0_leastLeft_22 ?_
    obtain ⟨y5, ey5, hf⟩ := bS hf
    refine r_istore_nE C dX0_leastLeft_23 (by decide) ey5 ?_
    refine r_iload_n C dX0_leastLeft_24 rfl ?_
    refine r_if_le (tgt := 39) C dX0_leastLeft_25 (by decide) (fun hc => ?_) (fun hc => ?_)
    · have hf := ifT hf hc
      exact V.sub (wX0_leastLeft_b39 C hret hg4 hf) (LW_s rfl (LW_s rfl (LW_s rfl (LW_n (LW_e)))))
    · have hf := ifF hf hc
      refine r_iload_n C dX0_leastLeft_28 rfl ?_
      refine r_if_lt (tgt := 37) C dX0_leastLeft_29 (by decide) (fun hc => ?_) (fun hc => ?_)
      · have hf := ifT hf hc
        exact V.sub (wX0_leastLeft_b37 C hret hg4 hf) (LW_s rfl (LW_n (LW_s rfl (LW_s rfl (LW_e)))))
      · have hf := ifF hf hc
        refine r_iload_n C dX0_leastLeft_32 rfl ?_
        refine r_iload_n C dX0_leastLeft_33 rfl ?_
        refine r_icmp_ge (tgt := 39) C dX0_leastLeft_34 (by decide) (fun hc => ?_) (fun hc => ?_)
        · have hf := ifT hf hc
          exact V.sub (wX0_leastLeft_b39 C hret hg4 hf) (LW_s rfl (LW_s rfl (LW_s rfl (LW_n (LW_e)))))
        · have hf := ifF hf hc
          exact V.sub (wX0_leastLeft_b37 C hret hg4 hf) (LW_s rfl (LW_n (LW_s rfl (LW_s rfl (LW_e)))))
theorem wX0_leastLeft_b4 {p : Program} {l : Launch} {e : Env} {s : State} {m : MethodId} {args : Array Value} {below : List Frame} {meth : Method} {c : Code} {G : Gl} {N : Nat} {r : Int32 × Hs}  {t : Nat} (C : Cx p s m args meth c cX0_leastLeft RX0 4 G) (hret : meth.sig.returnType = (some .int))  : ∀ (n : Nat) (h : Hs) (x1 : Int32) (x2 : Int32), fX0_leastLeft_b4 N  t n h x1 x2 = some r → V p l e rmX0_leastLeft s m args below meth c G 4 (MQ below (QcG G (some (.inl r.1)) r.2) args s rmX0_leastLeft.cells rmX0_leastLeft.slots (AG G)) h 0 0 4 [some (.inr (some t)), some (.inl x1), some (.inl x2), none] [] := by
  intro n
  induction n with
  | zero => intro h x1 x2 hf; exact absurd (show (none : Option (Int32 × Hs)) = some r from hf) (fun q => by cases q)
  | succ n ih => intro h x1 x2 hf; exact wX0_leastLeft_b4_body C hret  ih (show fX0_leastLeft_b4_body N  (fX0_leastLeft_b4 N  t n) t h x1 x2 = some r from hf)
noncomputable def fX0_leastLeft (N : Nat) (h : Hs) (t : Nat)  : Option (Int32 × Hs) :=
  fX0_leastLeft_b4 N t N h (-1) 0
set_option maxHeartbeats 4000000 in
set_option maxRecDepth 20000 in
theorem kX0_leastLeft (l : Launch) (G : Gl) {N : Nat} {h : Hs} {t : Nat}  {r : Int32 × Hs} (hf : fX0_leastLeft N h t  = some r) : CT l G yX0_leastLeft cX0_leastLeft 4 (some .int) rmX0_leastLeft [.inr (some t)] h (some (.inl r.1)) r.2 := by
  refine mk_CT (by decide) (Nat.le_of_ble_eq_true rfl) ?_
  intro p e s m args below meth c C hret hin
  unfold fX0_leastLeft at hf
  refine r_iconst (v := -1) C dX0_leastLeft_0 (by decide) ?_
  refine r_istore_n C dX0_leastLeft_1 (by decide) ?_
  refine r_iconst (v := 0) C dX0_leastLeft_2 (by decide) ?_
  refine r_istore_n C dX0_leastLeft_3 (by decide) ?_
  exact V.sub (wX0_leastLeft_b4 C hret N _ _ _ hf) (LW_s rfl (LW_s rfl (LW_s rfl (LW_n (LW_e)))))

theorem dgX0_tell_0 : (decode cX0_tell 0 = .ok (.iload_n 1, 1)) ∧ True := dkW [(0, .iload_n 1, 1)] 0 (by decide +kernel)
theorem dX0_tell_0 : decode cX0_tell 0 = .ok (.iload_n 1, 1) := dgX0_tell_0.1
theorem dX0_tell_1 : decode cX0_tell 1 = .ok (.tableswitch 47 0 2 #[27, 37, 42], 27) := by decide +kernel
theorem dgX0_tell_28 : (decode cX0_tell 28 = .ok (.aload_n 0, 1)) ∧ (decode cX0_tell 29 = .ok (.getfield 22, 3)) ∧ (decode cX0_tell 32 = .ok (.aload_n 0, 1)) ∧ (decode cX0_tell 33 = .ok (.invokevirtual 29, 3)) ∧ (decode cX0_tell 36 = .ok (.isub, 1)) ∧ (decode cX0_tell 37 = .ok (.ireturn, 1)) ∧ (decode cX0_tell 38 = .ok (.aload_n 0, 1)) ∧ (decode cX0_tell 39 = .ok (.invokevirtual 29, 3)) ∧ (decode cX0_tell 42 = .ok (.ireturn, 1)) ∧ (decode cX0_tell 43 = .ok (.aload_n 0, 1)) ∧ (decode cX0_tell 44 = .ok (.invokevirtual 33, 3)) ∧ (decode cX0_tell 47 = .ok (.ireturn, 1)) ∧ True := dkW [(28, .aload_n 0, 1), (29, .getfield 22, 3), (32, .aload_n 0, 1), (33, .invokevirtual 29, 3), (36, .isub, 1), (37, .ireturn, 1), (38, .aload_n 0, 1), (39, .invokevirtual 29, 3), (42, .ireturn, 1), (43, .aload_n 0, 1), (44, .invokevirtual 33, 3), (47, .ireturn, 1)] 28 (by decide +kernel)
theorem dX0_tell_28 : decode cX0_tell 28 = .ok (.aload_n 0, 1) := dgX0_tell_28.1
theorem dX0_tell_29 : decode cX0_tell 29 = .ok (.getfield 22, 3) := dgX0_tell_28.2.1
theorem dX0_tell_32 : decode cX0_tell 32 = .ok (.aload_n 0, 1) := dgX0_tell_28.2.2.1
theorem dX0_tell_33 : decode cX0_tell 33 = .ok (.invokevirtual 29, 3) := dgX0_tell_28.2.2.2.1
theorem dX0_tell_36 : decode cX0_tell 36 = .ok (.isub, 1) := dgX0_tell_28.2.2.2.2.1
theorem dX0_tell_37 : decode cX0_tell 37 = .ok (.ireturn, 1) := dgX0_tell_28.2.2.2.2.2.1
theorem dX0_tell_38 : decode cX0_tell 38 = .ok (.aload_n 0, 1) := dgX0_tell_28.2.2.2.2.2.2.1
theorem dX0_tell_39 : decode cX0_tell 39 = .ok (.invokevirtual 29, 3) := dgX0_tell_28.2.2.2.2.2.2.2.1
theorem dX0_tell_42 : decode cX0_tell 42 = .ok (.ireturn, 1) := dgX0_tell_28.2.2.2.2.2.2.2.2.1
theorem dX0_tell_43 : decode cX0_tell 43 = .ok (.aload_n 0, 1) := dgX0_tell_28.2.2.2.2.2.2.2.2.2.1
theorem dX0_tell_44 : decode cX0_tell 44 = .ok (.invokevirtual 33, 3) := dgX0_tell_28.2.2.2.2.2.2.2.2.2.2.1
theorem dX0_tell_47 : decode cX0_tell 47 = .ok (.ireturn, 1) := dgX0_tell_28.2.2.2.2.2.2.2.2.2.2.2.1
theorem dX0_tell_48 : decode cX0_tell 48 = .ok (.iconst (-1), 1) := by decide +kernel
theorem dgX0_tell_49 : (decode cX0_tell 49 = .ok (.ireturn, 1)) ∧ True := dkW [(49, .ireturn, 1)] 49 (by decide +kernel)
theorem dX0_tell_49 : decode cX0_tell 49 = .ok (.ireturn, 1) := dgX0_tell_49.1
abbrev rmX0_tell : Room := { frames := 1, cells := 0, slots := 0, locals := 23 }
noncomputable def fX0_tell (N : Nat) (h : Hs) (t : Nat) (p1 : Int32) : Option (Int32 × Hs) :=
  if p1 = 0 then (
  (oI 0 2 h (some t)).bind fun v1 =>
  (rc 0 h (some t)).bind fun a3 =>
  (fX0_burning N h a3 ).bind fun r2 =>
  some (v1 - r2.1, r2.2))
  else if p1 = 1 then (
  (rc 0 h (some t)).bind fun a5 =>
  (fX0_burning N h a5 ).bind fun r4 =>
  some (r4.1, r4.2))
  else if p1 = 2 then (
  (rc 0 h (some t)).bind fun a7 =>
  (fX0_leastLeft N h a7 ).bind fun r6 =>
  some (r6.1, r6.2))
  else some ((-1), h)
set_option maxHeartbeats 4000000 in
set_option maxRecDepth 20000 in
theorem kX0_tell (l : Launch) (G : Gl) {N : Nat} {h : Hs} {t : Nat} {p1 : Int32} {r : Int32 × Hs} (hf : fX0_tell N h t p1 = some r) : CT l G yX0_tell cX0_tell 2 (some .int) rmX0_tell [.inr (some t), .inl p1] h (some (.inl r.1)) r.2 := by
  refine mk_CT (by decide) (Nat.le_of_ble_eq_true rfl) ?_
  intro p e s m args below meth c C hret hin
  unfold fX0_tell at hf
  refine r_iload_n C dX0_tell_0 rfl ?_
  by_cases k0 : p1 = 0
  · have hf := ifT hf k0
    refine r_tabIn (tgt := 28) (off := 27) C dX0_tell_1 (by rw [k0]; decide) (by rw [k0]; decide) (by rw [k0]; rfl) (by decide) ?_
    refine r_aload_n C dX0_tell_28 rfl ?_
    obtain ⟨v1, ev1, hf⟩ := bS hf
    refine r_getI C dX0_tell_29 fl_X0_22 rfl ev1 ?_
    refine r_aload_n C dX0_tell_32 rfl ?_
    obtain ⟨a3, ea3, hf⟩ := bS hf
    obtain ⟨r2, er2, hf⟩ := bS hf
    refine r_invV1 (As := []) (ci := 0) C dX0_tell_33 mcX0_burning wd_874 wd_876 wp_25 rfl rfl (by decide) ⟨by decide, by decide⟩ ⟨by decide, by decide⟩ rfl (Nat.le_of_ble_eq_true rfl) ea3 (kX0_burning l G er2) ?_
    refine r_isub C dX0_tell_36 ?_
    exact r_iretF C dX0_tell_37 hret hf (by decide) (by decide)
  · have hf := ifF hf k0
    by_cases k1 : p1 = 1
    · have hf := ifT hf k1
      refine r_tabIn (tgt := 38) (off := 37) C dX0_tell_1 (by rw [k1]; decide) (by rw [k1]; decide) (by rw [k1]; rfl) (by decide) ?_
      refine r_aload_n C dX0_tell_38 rfl ?_
      obtain ⟨a5, ea5, hf⟩ := bS hf
      obtain ⟨r4, er4, hf⟩ := bS hf
      refine r_invV1 (As := []) (ci := 0) C dX0_tell_39 mcX0_burning wd_874 wd_876 wp_25 rfl rfl (by decide) ⟨by decide, by decide⟩ ⟨by decide, by decide⟩ rfl (Nat.le_of_ble_eq_true rfl) ea5 (kX0_burning l G er4) ?_
      exact r_iretF C dX0_tell_42 hret hf (by decide) (by decide)
    · have hf := ifF hf k1
      by_cases k2 : p1 = 2
      · have hf := ifT hf k2
        refine r_tabIn (tgt := 43) (off := 42) C dX0_tell_1 (by rw [k2]; decide) (by rw [k2]; decide) (by rw [k2]; rfl) (by decide) ?_
        refine r_aload_n C dX0_tell_43 rfl ?_
        obtain ⟨a7, ea7, hf⟩ := bS hf
        obtain ⟨r6, er6, hf⟩ := bS hf
        refine r_invV1 (As := []) (ci := 0) C dX0_tell_44 mcX0_leastLeft wd_878 wd_880 wp_26 rfl rfl (by decide) ⟨by decide, by decide⟩ ⟨by decide, by decide⟩ rfl (Nat.le_of_ble_eq_true rfl) ea7 (kX0_leastLeft l G er6) ?_
        exact r_iretF C dX0_tell_47 hret hf (by decide) (by decide)
      · have hf := ifF hf k2
        refine r_tabOut (tgt := 48) C dX0_tell_1 (sw_out (lo := 0) (hi := 2) [0, 1, 2] (by decide) (List.forall_mem_cons.mpr ⟨k0, List.forall_mem_cons.mpr ⟨k1, List.forall_mem_cons.mpr ⟨k2, fun _ q => absurd q List.not_mem_nil⟩⟩⟩)) (by decide) ?_
        refine r_iconst (v := -1) C dX0_tell_48 (by decide) ?_
        exact r_iretF C dX0_tell_49 hret hf (by decide) (by decide)

theorem dgX1_init_0 : (decode cX1_init 0 = .ok (.aload_n 0, 1)) ∧ (decode cX1_init 1 = .ok (.invokespecial 3, 3)) ∧ (decode cX1_init 4 = .ok (.aload_n 0, 1)) ∧ (decode cX1_init 5 = .ok (.bipush 40, 2)) ∧ (decode cX1_init 7 = .ok (.newarray .int, 2)) ∧ (decode cX1_init 9 = .ok (.putfield 9, 3)) ∧ (decode cX1_init 12 = .ok (.aload_n 0, 1)) ∧ (decode cX1_init 13 = .ok (.bipush 40, 2)) ∧ (decode cX1_init 15 = .ok (.newarray .int, 2)) ∧ (decode cX1_init 17 = .ok (.putfield 15, 3)) ∧ (decode cX1_init 20 = .ok (.aload_n 0, 1)) ∧ (decode cX1_init 21 = .ok (.bipush 125, 2)) ∧ True := dkW [(0, .aload_n 0, 1), (1, .invokespecial 3, 3), (4, .aload_n 0, 1), (5, .bipush 40, 2), (7, .newarray .int, 2), (9, .putfield 9, 3), (12, .aload_n 0, 1), (13, .bipush 40, 2), (15, .newarray .int, 2), (17, .putfield 15, 3), (20, .aload_n 0, 1), (21, .bipush 125, 2)] 0 (by decide +kernel)
theorem dX1_init_0 : decode cX1_init 0 = .ok (.aload_n 0, 1) := dgX1_init_0.1
theorem dX1_init_1 : decode cX1_init 1 = .ok (.invokespecial 3, 3) := dgX1_init_0.2.1
theorem dX1_init_4 : decode cX1_init 4 = .ok (.aload_n 0, 1) := dgX1_init_0.2.2.1
theorem dX1_init_5 : decode cX1_init 5 = .ok (.bipush 40, 2) := dgX1_init_0.2.2.2.1
theorem dX1_init_7 : decode cX1_init 7 = .ok (.newarray .int, 2) := dgX1_init_0.2.2.2.2.1
theorem dX1_init_9 : decode cX1_init 9 = .ok (.putfield 9, 3) := dgX1_init_0.2.2.2.2.2.1
theorem dX1_init_12 : decode cX1_init 12 = .ok (.aload_n 0, 1) := dgX1_init_0.2.2.2.2.2.2.1
theorem dX1_init_13 : decode cX1_init 13 = .ok (.bipush 40, 2) := dgX1_init_0.2.2.2.2.2.2.2.1
theorem dX1_init_15 : decode cX1_init 15 = .ok (.newarray .int, 2) := dgX1_init_0.2.2.2.2.2.2.2.2.1
theorem dX1_init_17 : decode cX1_init 17 = .ok (.putfield 15, 3) := dgX1_init_0.2.2.2.2.2.2.2.2.2.1
theorem dX1_init_20 : decode cX1_init 20 = .ok (.aload_n 0, 1) := dgX1_init_0.2.2.2.2.2.2.2.2.2.2.1
theorem dX1_init_21 : decode cX1_init 21 = .ok (.bipush 125, 2) := dgX1_init_0.2.2.2.2.2.2.2.2.2.2.2.1
theorem dgX1_init_23 : (decode cX1_init 23 = .ok (.newarray .int, 2)) ∧ (decode cX1_init 25 = .ok (.putfield 18, 3)) ∧ (decode cX1_init 28 = .ok (.aload_n 0, 1)) ∧ (decode cX1_init 29 = .ok (.aload_n 1, 1)) ∧ (decode cX1_init 30 = .ok (.putfield 21, 3)) ∧ (decode cX1_init 33 = .ok (.return_, 1)) ∧ True := dkW [(23, .newarray .int, 2), (25, .putfield 18, 3), (28, .aload_n 0, 1), (29, .aload_n 1, 1), (30, .putfield 21, 3), (33, .return_, 1)] 23 (by decide +kernel)
theorem dX1_init_23 : decode cX1_init 23 = .ok (.newarray .int, 2) := dgX1_init_23.1
theorem dX1_init_25 : decode cX1_init 25 = .ok (.putfield 18, 3) := dgX1_init_23.2.1
theorem dX1_init_28 : decode cX1_init 28 = .ok (.aload_n 0, 1) := dgX1_init_23.2.2.1
theorem dX1_init_29 : decode cX1_init 29 = .ok (.aload_n 1, 1) := dgX1_init_23.2.2.2.1
theorem dX1_init_30 : decode cX1_init 30 = .ok (.putfield 21, 3) := dgX1_init_23.2.2.2.2.1
theorem dX1_init_33 : decode cX1_init 33 = .ok (.return_, 1) := dgX1_init_23.2.2.2.2.2.1
abbrev rmX1_init : Room := { frames := 1, cells := 3, slots := 205, locals := 12 }
noncomputable def fX1_init (N : Nat) (h : Hs) (t : Nat) (p1 : Option Nat) : Option (Hs) :=
  (some (nw h (20, 40))).bind fun h1 =>
  (qR 1 1 h1 (some t) (some (sz h))).bind fun h2 =>
  (some (nw h2 (20, 40))).bind fun h3 =>
  (qR 1 2 h3 (some t) (some (sz h2))).bind fun h4 =>
  (some (nw h4 (20, 125))).bind fun h5 =>
  (qR 1 3 h5 (some t) (some (sz h4))).bind fun h6 =>
  (qR 1 0 h6 (some t) p1).bind fun h7 =>
  some h7
set_option maxHeartbeats 4000000 in
set_option maxRecDepth 20000 in
theorem kX1_init (l : Launch) (G : Gl) {N : Nat} {h : Hs} {t : Nat} {p1 : Option Nat} {r : Hs} (hf : fX1_init N h t p1 = some r) : CT l G yX1_init cX1_init 2 none rmX1_init [.inr (some t), .inr p1] h (none) r := by
  refine mk_CT (by decide) (Nat.le_of_ble_eq_true rfl) ?_
  intro p e s m args below meth c C hret hin
  unfold fX1_init at hf
  refine r_aload_n C dX1_init_0 rfl ?_
  refine r_objInit C dX1_init_1 wd_231 wd_24 wd_25 (by decide) (Nat.le_of_ble_eq_true rfl) ?_
  refine r_aload_n C dX1_init_4 rfl ?_
  refine r_bipush (v := 40) C dX1_init_5 (by decide) ?_
  obtain ⟨h1, eh1, hf⟩ := bS hf
  cases eh1
  refine r_newA (t := 0) (N := 40) C dX1_init_7 (by decide) rfl rfl wd_62 (by decide) (by decide) (by decide) (fun _ _ q => q) (by decide) (by decide) ?_
  obtain ⟨h2, eh2, hf⟩ := bS hf
  refine r_putR C dX1_init_9 fl_X1_9 (Or.inr ⟨ff_1_1, hin⟩) rfl eh2 ?_
  refine r_aload_n C dX1_init_12 rfl ?_
  refine r_bipush (v := 40) C dX1_init_13 (by decide) ?_
  obtain ⟨h3, eh3, hf⟩ := bS hf
  cases eh3
  refine r_newA (t := 0) (N := 40) C dX1_init_15 (by decide) rfl rfl wd_62 (by decide) (by decide) (by decide) (fun _ _ q => q) (by decide) (by decide) ?_
  obtain ⟨h4, eh4, hf⟩ := bS hf
  refine r_putR C dX1_init_17 fl_X1_15 (Or.inr ⟨ff_1_2, hin⟩) rfl eh4 ?_
  refine r_aload_n C dX1_init_20 rfl ?_
  refine r_bipush (v := 125) C dX1_init_21 (by decide) ?_
  obtain ⟨h5, eh5, hf⟩ := bS hf
  cases eh5
  refine r_newA (t := 0) (N := 125) C dX1_init_23 (by decide) rfl rfl wd_62 (by decide) (by decide) (by decide) (fun _ _ q => q) (by decide) (by decide) ?_
  obtain ⟨h6, eh6, hf⟩ := bS hf
  refine r_putR C dX1_init_25 fl_X1_18 (Or.inr ⟨ff_1_3, hin⟩) rfl eh6 ?_
  refine r_aload_n C dX1_init_28 rfl ?_
  refine r_aload_n C dX1_init_29 rfl ?_
  obtain ⟨h7, eh7, hf⟩ := bS hf
  refine r_putR C dX1_init_30 fl_X1_21 (Or.inr ⟨ff_1_0, hin⟩) rfl eh7 ?_
  exact r_vretF C dX1_init_33 hret hf (by decide) (by decide)

theorem dgX11_isTurn_0 : (decode cX11_isTurn 0 = .ok (.iload_n 0, 1)) ∧ (decode cX11_isTurn 1 = .ok (.sipush (-9999), 3)) ∧ (decode cX11_isTurn 4 = .ok (.sipush 9999, 3)) ∧ (decode cX11_isTurn 7 = .ok (.invokestatic 234, 3)) ∧ (decode cX11_isTurn 10 = .ok (.ireturn, 1)) ∧ True := dkW [(0, .iload_n 0, 1), (1, .sipush (-9999), 3), (4, .sipush 9999, 3), (7, .invokestatic 234, 3), (10, .ireturn, 1)] 0 (by decide +kernel)
theorem dX11_isTurn_0 : decode cX11_isTurn 0 = .ok (.iload_n 0, 1) := dgX11_isTurn_0.1
theorem dX11_isTurn_1 : decode cX11_isTurn 1 = .ok (.sipush (-9999), 3) := dgX11_isTurn_0.2.1
theorem dX11_isTurn_4 : decode cX11_isTurn 4 = .ok (.sipush 9999, 3) := dgX11_isTurn_0.2.2.1
theorem dX11_isTurn_7 : decode cX11_isTurn 7 = .ok (.invokestatic 234, 3) := dgX11_isTurn_0.2.2.2.1
theorem dX11_isTurn_10 : decode cX11_isTurn 10 = .ok (.ireturn, 1) := dgX11_isTurn_0.2.2.2.2.1
abbrev rmX11_isTurn : Room := { frames := 1, cells := 0, slots := 0, locals := 22 }
noncomputable def fX11_isTurn (N : Nat) (h : Hs) (p0 : Int32) : Option (Int32 × Hs) :=
  (fX11_isWithin N h p0 (-9999) 9999).bind fun r1 =>
  (zc r1.1).bind fun z2 =>
  some (z2, r1.2)
set_option maxHeartbeats 4000000 in
set_option maxRecDepth 20000 in
theorem kX11_isTurn (l : Launch) (G : Gl) {N : Nat} {h : Hs} {p0 : Int32} {r : Int32 × Hs} (hf : fX11_isTurn N h p0 = some r) : CT l G yX11_isTurn cX11_isTurn 1 (some .boolean) rmX11_isTurn [.inl p0] h (some (.inl r.1)) r.2 := by
  refine mk_CT (by decide) (Nat.le_of_ble_eq_true rfl) ?_
  intro p e s m args below meth c C hret hin
  unfold fX11_isTurn at hf
  refine r_iload_n C dX11_isTurn_0 rfl ?_
  refine r_sipush (v := -9999) C dX11_isTurn_1 (by decide) ?_
  refine r_sipush (v := 9999) C dX11_isTurn_4 (by decide) ?_
  obtain ⟨r1, er1, hf⟩ := bS hf
  refine r_invS1 (As := [.inl p0, .inl (-9999), .inl 9999]) C dX11_isTurn_7 mcX11_isWithin wd_589 wd_291 ⟨by decide, by decide⟩ ⟨by decide, by decide⟩ rfl (Nat.le_of_ble_eq_true rfl) (kX11_isWithin l G er1) ?_
  obtain ⟨z2, ez2, hf⟩ := bS hf
  exact r_zretF C dX11_isTurn_10 hret ez2 hf (by decide) (by decide)

theorem dgJ7_fill_53178_0 : (decode cJ7_fill_53178 0 = .ok (.iconst 0, 1)) ∧ (decode cJ7_fill_53178 1 = .ok (.istore_n 2, 1)) ∧ (decode cJ7_fill_53178 2 = .ok (.aload_n 0, 1)) ∧ (decode cJ7_fill_53178 3 = .ok (.arraylength, 1)) ∧ (decode cJ7_fill_53178 4 = .ok (.istore_n 3, 1)) ∧ (decode cJ7_fill_53178 5 = .ok (.iload_n 2, 1)) ∧ (decode cJ7_fill_53178 6 = .ok (.iload_n 3, 1)) ∧ (decode cJ7_fill_53178 7 = .ok (.if_icmp .ge 13, 3)) ∧ (decode cJ7_fill_53178 10 = .ok (.aload_n 0, 1)) ∧ (decode cJ7_fill_53178 11 = .ok (.iload_n 2, 1)) ∧ (decode cJ7_fill_53178 12 = .ok (.iload_n 1, 1)) ∧ (decode cJ7_fill_53178 13 = .ok (.iastore, 1)) ∧ True := dkW [(0, .iconst 0, 1), (1, .istore_n 2, 1), (2, .aload_n 0, 1), (3, .arraylength, 1), (4, .istore_n 3, 1), (5, .iload_n 2, 1), (6, .iload_n 3, 1), (7, .if_icmp .ge 13, 3), (10, .aload_n 0, 1), (11, .iload_n 2, 1), (12, .iload_n 1, 1), (13, .iastore, 1)] 0 (by decide +kernel)
theorem dJ7_fill_53178_0 : decode cJ7_fill_53178 0 = .ok (.iconst 0, 1) := dgJ7_fill_53178_0.1
theorem dJ7_fill_53178_1 : decode cJ7_fill_53178 1 = .ok (.istore_n 2, 1) := dgJ7_fill_53178_0.2.1
theorem dJ7_fill_53178_2 : decode cJ7_fill_53178 2 = .ok (.aload_n 0, 1) := dgJ7_fill_53178_0.2.2.1
theorem dJ7_fill_53178_3 : decode cJ7_fill_53178 3 = .ok (.arraylength, 1) := dgJ7_fill_53178_0.2.2.2.1
theorem dJ7_fill_53178_4 : decode cJ7_fill_53178 4 = .ok (.istore_n 3, 1) := dgJ7_fill_53178_0.2.2.2.2.1
theorem dJ7_fill_53178_5 : decode cJ7_fill_53178 5 = .ok (.iload_n 2, 1) := dgJ7_fill_53178_0.2.2.2.2.2.1
theorem dJ7_fill_53178_6 : decode cJ7_fill_53178 6 = .ok (.iload_n 3, 1) := dgJ7_fill_53178_0.2.2.2.2.2.2.1
theorem dJ7_fill_53178_7 : decode cJ7_fill_53178 7 = .ok (.if_icmp .ge 13, 3) := dgJ7_fill_53178_0.2.2.2.2.2.2.2.1
theorem dJ7_fill_53178_10 : decode cJ7_fill_53178 10 = .ok (.aload_n 0, 1) := dgJ7_fill_53178_0.2.2.2.2.2.2.2.2.1
theorem dJ7_fill_53178_11 : decode cJ7_fill_53178 11 = .ok (.iload_n 2, 1) := dgJ7_fill_53178_0.2.2.2.2.2.2.2.2.2.1
theorem dJ7_fill_53178_12 : decode cJ7_fill_53178 12 = .ok (.iload_n 1, 1) := dgJ7_fill_53178_0.2.2.2.2.2.2.2.2.2.2.1
theorem dJ7_fill_53178_13 : decode cJ7_fill_53178 13 = .ok (.iastore, 1) := dgJ7_fill_53178_0.2.2.2.2.2.2.2.2.2.2.2.1
theorem dgJ7_fill_53178_14 : (decode cJ7_fill_53178 14 = .ok (.iinc 2 1, 3)) ∧ (decode cJ7_fill_53178 17 = .ok (.goto (-12), 3)) ∧ (decode cJ7_fill_53178 20 = .ok (.return_, 1)) ∧ True := dkW [(14, .iinc 2 1, 3), (17, .goto (-12), 3), (20, .return_, 1)] 14 (by decide +kernel)
theorem dJ7_fill_53178_14 : decode cJ7_fill_53178 14 = .ok (.iinc 2 1, 3) := dgJ7_fill_53178_14.1
theorem dJ7_fill_53178_17 : decode cJ7_fill_53178 17 = .ok (.goto (-12), 3) := dgJ7_fill_53178_14.2.1
theorem dJ7_fill_53178_20 : decode cJ7_fill_53178 20 = .ok (.return_, 1) := dgJ7_fill_53178_14.2.2.1
abbrev rmJ7_fill_53178 : Room := { frames := 0, cells := 0, slots := 0, locals := 0 }
noncomputable def fJ7_fill_53178_b5_body (N : Nat)  (g5 : Hs → Option Nat → Int32 → Int32 → Int32 → Option (Hs)) (h : Hs) (w0 : Option Nat) (x1 : Int32) (x2 : Int32) (x3 : Int32) : Option (Hs) :=
  if x3 ≤ x2 then (
  some h)
  else (sA h w0 x2 x1).bind fun h1 =>
  (some (x2 + 1)).bind fun y2 =>
  g5 h1 w0 x1 y2 x3
noncomputable def fJ7_fill_53178_b5 (N : Nat)  (n : Nat) : Hs → Option Nat → Int32 → Int32 → Int32 → Option (Hs) := lp (fun _ _ _ _ _ => none) (fun g h w0 x1 x2 x3 => fJ7_fill_53178_b5_body N  g h w0 x1 x2 x3) n
set_option maxHeartbeats 4000000 in
set_option maxRecDepth 20000 in
theorem wJ7_fill_53178_b5_body {p : Program} {l : Launch} {e : Env} {s : State} {m : MethodId} {args : Array Value} {below : List Frame} {meth : Method} {c : Code} {G : Gl} {N : Nat} {h : Hs} {r : Hs}  {g5 : Hs → Option Nat → Int32 → Int32 → Int32 → Option (Hs)} {w0 : Option Nat} {x1 : Int32} {x2 : Int32} {x3 : Int32} (C : Cx p s m args meth c cJ7_fill_53178 RJ7 4 G) (hret : meth.sig.returnType = none)  (hg5 : ∀ (h : Hs) (w0 : Option Nat) (x1 : Int32) (x2 : Int32) (x3 : Int32), g5 h w0 x1 x2 x3 = some r → V p l e rmJ7_fill_53178 s m args below meth c G 4 (MQ below (QcG G (none) r) args s rmJ7_fill_53178.cells rmJ7_fill_53178.slots (AG G)) h 0 0 5 [some (.inr w0), some (.inl x1), some (.inl x2), some (.inl x3)] []) (hf : fJ7_fill_53178_b5_body N  g5 h w0 x1 x2 x3 = some r) : V p l e rmJ7_fill_53178 s m args below meth c G 4 (MQ below (QcG G (none) r) args s rmJ7_fill_53178.cells rmJ7_fill_53178.slots (AG G)) h 0 0 5 [some (.inr w0), some (.inl x1), some (.inl x2), some (.inl x3)] [] := by
  unfold fJ7_fill_53178_b5_body at hf
  refine r_iload_n C dJ7_fill_53178_5 rfl ?_
  refine r_iload_n C dJ7_fill_53178_6 rfl ?_
  refine r_icmp_ge (tgt := 20) C dJ7_fill_53178_7 (by decide) (fun hc => ?_) (fun hc => ?_)
  · have hf := ifT hf hc
    exact r_vretF C dJ7_fill_53178_20 hret hf (by decide) (by decide)
  · have hf := ifF hf hc
    refine r_aload_n C dJ7_fill_53178_10 rfl ?_
    refine r_iload_n C dJ7_fill_53178_11 rfl ?_
    refine r_iload_n C dJ7_fill_53178_12 rfl ?_
    obtain ⟨h1, eh1, hf⟩ := bS hf
    refine r_iast C dJ7_fill_53178_13 eh1 ?_
    obtain ⟨y2, ey2, hf⟩ := bS hf
    refine r_iincE (v := 1) C dJ7_fill_53178_14 rfl (by decide) (by decide) ey2 ?_
    refine r_goto (tgt := 5) C dJ7_fill_53178_17 (by decide) ?_
    exact V.sub (hg5 _ _ _ _ _ hf) (LW_s rfl (LW_s rfl (LW_s rfl (LW_s rfl (LW_e)))))
theorem wJ7_fill_53178_b5 {p : Program} {l : Launch} {e : Env} {s : State} {m : MethodId} {args : Array Value} {below : List Frame} {meth : Method} {c : Code} {G : Gl} {N : Nat} {r : Hs}  (C : Cx p s m args meth c cJ7_fill_53178 RJ7 4 G) (hret : meth.sig.returnType = none)  : ∀ (n : Nat) (h : Hs) (w0 : Option Nat) (x1 : Int32) (x2 : Int32) (x3 : Int32), fJ7_fill_53178_b5 N  n h w0 x1 x2 x3 = some r → V p l e rmJ7_fill_53178 s m args below meth c G 4 (MQ below (QcG G (none) r) args s rmJ7_fill_53178.cells rmJ7_fill_53178.slots (AG G)) h 0 0 5 [some (.inr w0), some (.inl x1), some (.inl x2), some (.inl x3)] [] := by
  intro n
  induction n with
  | zero => intro h w0 x1 x2 x3 hf; exact absurd (show (none : Option (Hs)) = some r from hf) (fun q => by cases q)
  | succ n ih => intro h w0 x1 x2 x3 hf; exact wJ7_fill_53178_b5_body C hret  ih (show fJ7_fill_53178_b5_body N  (fJ7_fill_53178_b5 N  n) h w0 x1 x2 x3 = some r from hf)
noncomputable def fJ7_fill_53178 (N : Nat) (h : Hs) (p0 : Option Nat) (p1 : Int32) : Option (Hs) :=
  (oL h p0).bind fun v1 =>
  fJ7_fill_53178_b5 N N h p0 p1 0 v1
set_option maxHeartbeats 4000000 in
set_option maxRecDepth 20000 in
theorem kJ7_fill_53178 (l : Launch) (G : Gl) {N : Nat} {h : Hs} {p0 : Option Nat} {p1 : Int32} {r : Hs} (hf : fJ7_fill_53178 N h p0 p1 = some r) : CT l G yJ7_fill_53178 cJ7_fill_53178 4 none rmJ7_fill_53178 [.inr p0, .inl p1] h (none) r := by
  refine mk_CT (by decide) (Nat.le_of_ble_eq_true rfl) ?_
  intro p e s m args below meth c C hret hin
  unfold fJ7_fill_53178 at hf
  refine r_iconst (v := 0) C dJ7_fill_53178_0 (by decide) ?_
  refine r_istore_n C dJ7_fill_53178_1 (by decide) ?_
  refine r_aload_n C dJ7_fill_53178_2 rfl ?_
  obtain ⟨v1, ev1, hf⟩ := bS hf
  refine r_alen C dJ7_fill_53178_3 ev1 ?_
  refine r_istore_n C dJ7_fill_53178_4 (by decide) ?_
  exact V.sub (wJ7_fill_53178_b5 C hret N _ _ _ _ _ hf) (LW_s rfl (LW_s rfl (LW_s rfl (LW_s rfl (LW_e)))))

theorem dgX11_quotientUp_0 : (decode cX11_quotientUp 0 = .ok (.iload_n 1, 1)) ∧ (decode cX11_quotientUp 1 = .ok (.ifCond .ne 7, 3)) ∧ (decode cX11_quotientUp 4 = .ok (.iconst 0, 1)) ∧ (decode cX11_quotientUp 5 = .ok (.goto 10, 3)) ∧ (decode cX11_quotientUp 8 = .ok (.iload_n 0, 1)) ∧ (decode cX11_quotientUp 9 = .ok (.iload_n 1, 1)) ∧ (decode cX11_quotientUp 10 = .ok (.iadd, 1)) ∧ (decode cX11_quotientUp 11 = .ok (.iconst 1, 1)) ∧ (decode cX11_quotientUp 12 = .ok (.isub, 1)) ∧ (decode cX11_quotientUp 13 = .ok (.iload_n 1, 1)) ∧ (decode cX11_quotientUp 14 = .ok (.idiv, 1)) ∧ (decode cX11_quotientUp 15 = .ok (.ireturn, 1)) ∧ True := dkW [(0, .iload_n 1, 1), (1, .ifCond .ne 7, 3), (4, .iconst 0, 1), (5, .goto 10, 3), (8, .iload_n 0, 1), (9, .iload_n 1, 1), (10, .iadd, 1), (11, .iconst 1, 1), (12, .isub, 1), (13, .iload_n 1, 1), (14, .idiv, 1), (15, .ireturn, 1)] 0 (by decide +kernel)
theorem dX11_quotientUp_0 : decode cX11_quotientUp 0 = .ok (.iload_n 1, 1) := dgX11_quotientUp_0.1
theorem dX11_quotientUp_1 : decode cX11_quotientUp 1 = .ok (.ifCond .ne 7, 3) := dgX11_quotientUp_0.2.1
theorem dX11_quotientUp_4 : decode cX11_quotientUp 4 = .ok (.iconst 0, 1) := dgX11_quotientUp_0.2.2.1
theorem dX11_quotientUp_5 : decode cX11_quotientUp 5 = .ok (.goto 10, 3) := dgX11_quotientUp_0.2.2.2.1
theorem dX11_quotientUp_8 : decode cX11_quotientUp 8 = .ok (.iload_n 0, 1) := dgX11_quotientUp_0.2.2.2.2.1
theorem dX11_quotientUp_9 : decode cX11_quotientUp 9 = .ok (.iload_n 1, 1) := dgX11_quotientUp_0.2.2.2.2.2.1
theorem dX11_quotientUp_10 : decode cX11_quotientUp 10 = .ok (.iadd, 1) := dgX11_quotientUp_0.2.2.2.2.2.2.1
theorem dX11_quotientUp_11 : decode cX11_quotientUp 11 = .ok (.iconst 1, 1) := dgX11_quotientUp_0.2.2.2.2.2.2.2.1
theorem dX11_quotientUp_12 : decode cX11_quotientUp 12 = .ok (.isub, 1) := dgX11_quotientUp_0.2.2.2.2.2.2.2.2.1
theorem dX11_quotientUp_13 : decode cX11_quotientUp 13 = .ok (.iload_n 1, 1) := dgX11_quotientUp_0.2.2.2.2.2.2.2.2.2.1
theorem dX11_quotientUp_14 : decode cX11_quotientUp 14 = .ok (.idiv, 1) := dgX11_quotientUp_0.2.2.2.2.2.2.2.2.2.2.1
theorem dX11_quotientUp_15 : decode cX11_quotientUp 15 = .ok (.ireturn, 1) := dgX11_quotientUp_0.2.2.2.2.2.2.2.2.2.2.2.1
abbrev rmX11_quotientUp : Room := { frames := 0, cells := 0, slots := 0, locals := 0 }
noncomputable def fX11_quotientUp_b15 (N : Nat)  (h : Hs) (u0 : Int32) : Option (Int32 × Hs) :=
  some (u0, h)
set_option maxHeartbeats 4000000 in
set_option maxRecDepth 20000 in
theorem wX11_quotientUp_b15 {p : Program} {l : Launch} {e : Env} {s : State} {m : MethodId} {args : Array Value} {below : List Frame} {meth : Method} {c : Code} {G : Gl} {N : Nat} {h : Hs} {r : Int32 × Hs}  {u0 : Int32} (C : Cx p s m args meth c cX11_quotientUp RX11 2 G) (hret : meth.sig.returnType = (some .int))  (hf : fX11_quotientUp_b15 N  h u0 = some r) : V p l e rmX11_quotientUp s m args below meth c G 2 (MQ below (QcG G (some (.inl r.1)) r.2) args s rmX11_quotientUp.cells rmX11_quotientUp.slots (AG G)) h 0 0 15 [none, none] [.inl u0] := by
  unfold fX11_quotientUp_b15 at hf
  exact r_iretF C dX11_quotientUp_15 hret hf (by decide) (by decide)
noncomputable def fX11_quotientUp (N : Nat) (h : Hs) (p0 : Int32) (p1 : Int32) : Option (Int32 × Hs) :=
  if p1 = 0 then (
  fX11_quotientUp_b15 N h 0)
  else (dv ((p0 + p1) - 1) p1).bind fun v1 =>
  fX11_quotientUp_b15 N h v1
set_option maxHeartbeats 4000000 in
set_option maxRecDepth 20000 in
theorem kX11_quotientUp (l : Launch) (G : Gl) {N : Nat} {h : Hs} {p0 : Int32} {p1 : Int32} {r : Int32 × Hs} (hf : fX11_quotientUp N h p0 p1 = some r) : CT l G yX11_quotientUp cX11_quotientUp 2 (some .int) rmX11_quotientUp [.inl p0, .inl p1] h (some (.inl r.1)) r.2 := by
  refine mk_CT (by decide) (Nat.le_of_ble_eq_true rfl) ?_
  intro p e s m args below meth c C hret hin
  unfold fX11_quotientUp at hf
  refine r_iload_n C dX11_quotientUp_0 rfl ?_
  refine r_if_ne (tgt := 8) C dX11_quotientUp_1 (by decide) (fun hc => ?_) (fun hc => ?_)
  · have hf := ifF hf hc
    refine r_iload_n C dX11_quotientUp_8 rfl ?_
    refine r_iload_n C dX11_quotientUp_9 rfl ?_
    refine r_iadd C dX11_quotientUp_10 ?_
    refine r_iconst (v := 1) C dX11_quotientUp_11 (by decide) ?_
    refine r_isub C dX11_quotientUp_12 ?_
    refine r_iload_n C dX11_quotientUp_13 rfl ?_
    obtain ⟨v1, ev1, hf⟩ := bS hf
    refine r_idiv C dX11_quotientUp_14 ev1 ?_
    exact V.sub (wX11_quotientUp_b15 C hret hf) (LW_n (LW_n (LW_e)))
  · have hf := ifT hf hc
    refine r_iconst (v := 0) C dX11_quotientUp_4 (by decide) ?_
    refine r_goto (tgt := 15) C dX11_quotientUp_5 (by decide) ?_
    exact V.sub (wX11_quotientUp_b15 C hret hf) (LW_n (LW_n (LW_e)))

theorem dgX4_load_0 : (decode cX4_load 0 = .ok (.aload_n 0, 1)) ∧ (decode cX4_load 1 = .ok (.getfield 15, 3)) ∧ (decode cX4_load 4 = .ok (.getfield 50, 3)) ∧ (decode cX4_load 7 = .ok (.aload_n 0, 1)) ∧ (decode cX4_load 8 = .ok (.getfield 22, 3)) ∧ (decode cX4_load 11 = .ok (.invokestatic 53, 3)) ∧ (decode cX4_load 14 = .ok (.ireturn, 1)) ∧ True := dkW [(0, .aload_n 0, 1), (1, .getfield 15, 3), (4, .getfield 50, 3), (7, .aload_n 0, 1), (8, .getfield 22, 3), (11, .invokestatic 53, 3), (14, .ireturn, 1)] 0 (by decide +kernel)
theorem dX4_load_0 : decode cX4_load 0 = .ok (.aload_n 0, 1) := dgX4_load_0.1
theorem dX4_load_1 : decode cX4_load 1 = .ok (.getfield 15, 3) := dgX4_load_0.2.1
theorem dX4_load_4 : decode cX4_load 4 = .ok (.getfield 50, 3) := dgX4_load_0.2.2.1
theorem dX4_load_7 : decode cX4_load 7 = .ok (.aload_n 0, 1) := dgX4_load_0.2.2.2.1
theorem dX4_load_8 : decode cX4_load 8 = .ok (.getfield 22, 3) := dgX4_load_0.2.2.2.2.1
theorem dX4_load_11 : decode cX4_load 11 = .ok (.invokestatic 53, 3) := dgX4_load_0.2.2.2.2.2.1
theorem dX4_load_14 : decode cX4_load 14 = .ok (.ireturn, 1) := dgX4_load_0.2.2.2.2.2.2.1
abbrev rmX4_load : Room := { frames := 1, cells := 0, slots := 0, locals := 21 }
noncomputable def fX4_load (N : Nat) (h : Hs) (t : Nat)  : Option (Int32 × Hs) :=
  (oR 4 1 h (some t)).bind fun o1 =>
  (oI 9 3 h o1).bind fun v2 =>
  (oI 4 3 h (some t)).bind fun v3 =>
  (fX11_quotientUp N h v2 v3).bind fun r4 =>
  some (r4.1, r4.2)
set_option maxHeartbeats 4000000 in
set_option maxRecDepth 20000 in
theorem kX4_load (l : Launch) (G : Gl) {N : Nat} {h : Hs} {t : Nat}  {r : Int32 × Hs} (hf : fX4_load N h t  = some r) : CT l G yX4_load cX4_load 1 (some .int) rmX4_load [.inr (some t)] h (some (.inl r.1)) r.2 := by
  refine mk_CT (by decide) (Nat.le_of_ble_eq_true rfl) ?_
  intro p e s m args below meth c C hret hin
  unfold fX4_load at hf
  refine r_aload_n C dX4_load_0 rfl ?_
  obtain ⟨o1, eo1, hf⟩ := bS hf
  refine r_getR C dX4_load_1 fl_X4_15 rfl eo1 ?_
  obtain ⟨v2, ev2, hf⟩ := bS hf
  refine r_getI C dX4_load_4 fl_X4_50 rfl ev2 ?_
  refine r_aload_n C dX4_load_7 rfl ?_
  obtain ⟨v3, ev3, hf⟩ := bS hf
  refine r_getI C dX4_load_8 fl_X4_22 rfl ev3 ?_
  obtain ⟨r4, er4, hf⟩ := bS hf
  refine r_invSN1 (As := [.inl v2, .inl v3]) (host := "StageMachine") C dX4_load_11 mcX11_quotientUp (by decide) wd_498 ⟨by decide, by decide⟩ ⟨by decide, by decide⟩ rfl (Nat.le_of_ble_eq_true rfl) (kX11_quotientUp l G er4) ?_
  exact r_iretF C dX4_load_14 hret hf (by decide) (by decide)

theorem dgX4_spare_0 : (decode cX4_spare 0 = .ok (.aload_n 0, 1)) ∧ (decode cX4_spare 1 = .ok (.getfield 25, 3)) ∧ (decode cX4_spare 4 = .ok (.aload_n 0, 1)) ∧ (decode cX4_spare 5 = .ok (.invokevirtual 31, 3)) ∧ (decode cX4_spare 8 = .ok (.isub, 1)) ∧ (decode cX4_spare 9 = .ok (.ireturn, 1)) ∧ True := dkW [(0, .aload_n 0, 1), (1, .getfield 25, 3), (4, .aload_n 0, 1), (5, .invokevirtual 31, 3), (8, .isub, 1), (9, .ireturn, 1)] 0 (by decide +kernel)
theorem dX4_spare_0 : decode cX4_spare 0 = .ok (.aload_n 0, 1) := dgX4_spare_0.1
theorem dX4_spare_1 : decode cX4_spare 1 = .ok (.getfield 25, 3) := dgX4_spare_0.2.1
theorem dX4_spare_4 : decode cX4_spare 4 = .ok (.aload_n 0, 1) := dgX4_spare_0.2.2.1
theorem dX4_spare_5 : decode cX4_spare 5 = .ok (.invokevirtual 31, 3) := dgX4_spare_0.2.2.2.1
theorem dX4_spare_8 : decode cX4_spare 8 = .ok (.isub, 1) := dgX4_spare_0.2.2.2.2.1
theorem dX4_spare_9 : decode cX4_spare 9 = .ok (.ireturn, 1) := dgX4_spare_0.2.2.2.2.2.1
abbrev rmX4_spare : Room := { frames := 2, cells := 0, slots := 0, locals := 41 }
noncomputable def fX4_spare (N : Nat) (h : Hs) (t : Nat)  : Option (Int32 × Hs) :=
  (oI 4 4 h (some t)).bind fun v1 =>
  (rc 4 h (some t)).bind fun a3 =>
  (fX4_load N h a3 ).bind fun r2 =>
  some (v1 - r2.1, r2.2)
set_option maxHeartbeats 4000000 in
set_option maxRecDepth 20000 in
theorem kX4_spare (l : Launch) (G : Gl) {N : Nat} {h : Hs} {t : Nat}  {r : Int32 × Hs} (hf : fX4_spare N h t  = some r) : CT l G yX4_spare cX4_spare 1 (some .int) rmX4_spare [.inr (some t)] h (some (.inl r.1)) r.2 := by
  refine mk_CT (by decide) (Nat.le_of_ble_eq_true rfl) ?_
  intro p e s m args below meth c C hret hin
  unfold fX4_spare at hf
  refine r_aload_n C dX4_spare_0 rfl ?_
  obtain ⟨v1, ev1, hf⟩ := bS hf
  refine r_getI C dX4_spare_1 fl_X4_25 rfl ev1 ?_
  refine r_aload_n C dX4_spare_4 rfl ?_
  obtain ⟨a3, ea3, hf⟩ := bS hf
  obtain ⟨r2, er2, hf⟩ := bS hf
  refine r_invV1 (As := []) (ci := 4) C dX4_spare_5 mcX4_load wd_493 wd_494 wd_495 rfl rfl (by decide) ⟨by decide, by decide⟩ ⟨by decide, by decide⟩ rfl (Nat.le_of_ble_eq_true rfl) ea3 (kX4_load l G er2) ?_
  refine r_isub C dX4_spare_8 ?_
  exact r_iretF C dX4_spare_9 hret hf (by decide) (by decide)

theorem dgX11_quotient_0 : (decode cX11_quotient 0 = .ok (.iload_n 1, 1)) ∧ (decode cX11_quotient 1 = .ok (.ifCond .ne 7, 3)) ∧ (decode cX11_quotient 4 = .ok (.iconst 0, 1)) ∧ (decode cX11_quotient 5 = .ok (.goto 6, 3)) ∧ (decode cX11_quotient 8 = .ok (.iload_n 0, 1)) ∧ (decode cX11_quotient 9 = .ok (.iload_n 1, 1)) ∧ (decode cX11_quotient 10 = .ok (.idiv, 1)) ∧ (decode cX11_quotient 11 = .ok (.ireturn, 1)) ∧ True := dkW [(0, .iload_n 1, 1), (1, .ifCond .ne 7, 3), (4, .iconst 0, 1), (5, .goto 6, 3), (8, .iload_n 0, 1), (9, .iload_n 1, 1), (10, .idiv, 1), (11, .ireturn, 1)] 0 (by decide +kernel)
theorem dX11_quotient_0 : decode cX11_quotient 0 = .ok (.iload_n 1, 1) := dgX11_quotient_0.1
theorem dX11_quotient_1 : decode cX11_quotient 1 = .ok (.ifCond .ne 7, 3) := dgX11_quotient_0.2.1
theorem dX11_quotient_4 : decode cX11_quotient 4 = .ok (.iconst 0, 1) := dgX11_quotient_0.2.2.1
theorem dX11_quotient_5 : decode cX11_quotient 5 = .ok (.goto 6, 3) := dgX11_quotient_0.2.2.2.1
theorem dX11_quotient_8 : decode cX11_quotient 8 = .ok (.iload_n 0, 1) := dgX11_quotient_0.2.2.2.2.1
theorem dX11_quotient_9 : decode cX11_quotient 9 = .ok (.iload_n 1, 1) := dgX11_quotient_0.2.2.2.2.2.1
theorem dX11_quotient_10 : decode cX11_quotient 10 = .ok (.idiv, 1) := dgX11_quotient_0.2.2.2.2.2.2.1
theorem dX11_quotient_11 : decode cX11_quotient 11 = .ok (.ireturn, 1) := dgX11_quotient_0.2.2.2.2.2.2.2.1
abbrev rmX11_quotient : Room := { frames := 0, cells := 0, slots := 0, locals := 0 }
noncomputable def fX11_quotient_b11 (N : Nat)  (h : Hs) (u0 : Int32) : Option (Int32 × Hs) :=
  some (u0, h)
set_option maxHeartbeats 4000000 in
set_option maxRecDepth 20000 in
theorem wX11_quotient_b11 {p : Program} {l : Launch} {e : Env} {s : State} {m : MethodId} {args : Array Value} {below : List Frame} {meth : Method} {c : Code} {G : Gl} {N : Nat} {h : Hs} {r : Int32 × Hs}  {u0 : Int32} (C : Cx p s m args meth c cX11_quotient RX11 2 G) (hret : meth.sig.returnType = (some .int))  (hf : fX11_quotient_b11 N  h u0 = some r) : V p l e rmX11_quotient s m args below meth c G 2 (MQ below (QcG G (some (.inl r.1)) r.2) args s rmX11_quotient.cells rmX11_quotient.slots (AG G)) h 0 0 11 [none, none] [.inl u0] := by
  unfold fX11_quotient_b11 at hf
  exact r_iretF C dX11_quotient_11 hret hf (by decide) (by decide)
noncomputable def fX11_quotient (N : Nat) (h : Hs) (p0 : Int32) (p1 : Int32) : Option (Int32 × Hs) :=
  if p1 = 0 then (
  fX11_quotient_b11 N h 0)
  else (dv p0 p1).bind fun v1 =>
  fX11_quotient_b11 N h v1
set_option maxHeartbeats 4000000 in
set_option maxRecDepth 20000 in
theorem kX11_quotient (l : Launch) (G : Gl) {N : Nat} {h : Hs} {p0 : Int32} {p1 : Int32} {r : Int32 × Hs} (hf : fX11_quotient N h p0 p1 = some r) : CT l G yX11_quotient cX11_quotient 2 (some .int) rmX11_quotient [.inl p0, .inl p1] h (some (.inl r.1)) r.2 := by
  refine mk_CT (by decide) (Nat.le_of_ble_eq_true rfl) ?_
  intro p e s m args below meth c C hret hin
  unfold fX11_quotient at hf
  refine r_iload_n C dX11_quotient_0 rfl ?_
  refine r_if_ne (tgt := 8) C dX11_quotient_1 (by decide) (fun hc => ?_) (fun hc => ?_)
  · have hf := ifF hf hc
    refine r_iload_n C dX11_quotient_8 rfl ?_
    refine r_iload_n C dX11_quotient_9 rfl ?_
    obtain ⟨v1, ev1, hf⟩ := bS hf
    refine r_idiv C dX11_quotient_10 ev1 ?_
    exact V.sub (wX11_quotient_b11 C hret hf) (LW_n (LW_n (LW_e)))
  · have hf := ifT hf hc
    refine r_iconst (v := 0) C dX11_quotient_4 (by decide) ?_
    refine r_goto (tgt := 11) C dX11_quotient_5 (by decide) ?_
    exact V.sub (wX11_quotient_b11 C hret hf) (LW_n (LW_n (LW_e)))

theorem dgX4_placeFrom_0 : (decode cX4_placeFrom 0 = .ok (.iload_n 1, 1)) ∧ (decode cX4_placeFrom 1 = .ok (.aload_n 0, 1)) ∧ (decode cX4_placeFrom 2 = .ok (.getfield 19, 3)) ∧ (decode cX4_placeFrom 5 = .ok (.iload_n 2, 1)) ∧ (decode cX4_placeFrom 6 = .ok (.bipush 100, 2)) ∧ (decode cX4_placeFrom 8 = .ok (.aload_n 0, 1)) ∧ (decode cX4_placeFrom 9 = .ok (.getfield 22, 3)) ∧ (decode cX4_placeFrom 12 = .ok (.imul, 1)) ∧ (decode cX4_placeFrom 13 = .ok (.invokestatic 57, 3)) ∧ (decode cX4_placeFrom 16 = .ok (.imul, 1)) ∧ (decode cX4_placeFrom 17 = .ok (.iadd, 1)) ∧ (decode cX4_placeFrom 18 = .ok (.ireturn, 1)) ∧ True := dkW [(0, .iload_n 1, 1), (1, .aload_n 0, 1), (2, .getfield 19, 3), (5, .iload_n 2, 1), (6, .bipush 100, 2), (8, .aload_n 0, 1), (9, .getfield 22, 3), (12, .imul, 1), (13, .invokestatic 57, 3), (16, .imul, 1), (17, .iadd, 1), (18, .ireturn, 1)] 0 (by decide +kernel)
theorem dX4_placeFrom_0 : decode cX4_placeFrom 0 = .ok (.iload_n 1, 1) := dgX4_placeFrom_0.1
theorem dX4_placeFrom_1 : decode cX4_placeFrom 1 = .ok (.aload_n 0, 1) := dgX4_placeFrom_0.2.1
theorem dX4_placeFrom_2 : decode cX4_placeFrom 2 = .ok (.getfield 19, 3) := dgX4_placeFrom_0.2.2.1
theorem dX4_placeFrom_5 : decode cX4_placeFrom 5 = .ok (.iload_n 2, 1) := dgX4_placeFrom_0.2.2.2.1
theorem dX4_placeFrom_6 : decode cX4_placeFrom 6 = .ok (.bipush 100, 2) := dgX4_placeFrom_0.2.2.2.2.1
theorem dX4_placeFrom_8 : decode cX4_placeFrom 8 = .ok (.aload_n 0, 1) := dgX4_placeFrom_0.2.2.2.2.2.1
theorem dX4_placeFrom_9 : decode cX4_placeFrom 9 = .ok (.getfield 22, 3) := dgX4_placeFrom_0.2.2.2.2.2.2.1
theorem dX4_placeFrom_12 : decode cX4_placeFrom 12 = .ok (.imul, 1) := dgX4_placeFrom_0.2.2.2.2.2.2.2.1
theorem dX4_placeFrom_13 : decode cX4_placeFrom 13 = .ok (.invokestatic 57, 3) := dgX4_placeFrom_0.2.2.2.2.2.2.2.2.1
theorem dX4_placeFrom_16 : decode cX4_placeFrom 16 = .ok (.imul, 1) := dgX4_placeFrom_0.2.2.2.2.2.2.2.2.2.1
theorem dX4_placeFrom_17 : decode cX4_placeFrom 17 = .ok (.iadd, 1) := dgX4_placeFrom_0.2.2.2.2.2.2.2.2.2.2.1
theorem dX4_placeFrom_18 : decode cX4_placeFrom 18 = .ok (.ireturn, 1) := dgX4_placeFrom_0.2.2.2.2.2.2.2.2.2.2.2.1
abbrev rmX4_placeFrom : Room := { frames := 1, cells := 0, slots := 0, locals := 21 }
noncomputable def fX4_placeFrom (N : Nat) (h : Hs) (t : Nat) (p1 : Int32) (p2 : Int32) : Option (Int32 × Hs) :=
  (oI 4 2 h (some t)).bind fun v1 =>
  (oI 4 3 h (some t)).bind fun v2 =>
  (fX11_quotient N h p2 (100 * v2)).bind fun r3 =>
  some (p1 + (v1 * r3.1), r3.2)
set_option maxHeartbeats 4000000 in
set_option maxRecDepth 20000 in
theorem kX4_placeFrom (l : Launch) (G : Gl) {N : Nat} {h : Hs} {t : Nat} {p1 : Int32} {p2 : Int32} {r : Int32 × Hs} (hf : fX4_placeFrom N h t p1 p2 = some r) : CT l G yX4_placeFrom cX4_placeFrom 3 (some .int) rmX4_placeFrom [.inr (some t), .inl p1, .inl p2] h (some (.inl r.1)) r.2 := by
  refine mk_CT (by decide) (Nat.le_of_ble_eq_true rfl) ?_
  intro p e s m args below meth c C hret hin
  unfold fX4_placeFrom at hf
  refine r_iload_n C dX4_placeFrom_0 rfl ?_
  refine r_aload_n C dX4_placeFrom_1 rfl ?_
  obtain ⟨v1, ev1, hf⟩ := bS hf
  refine r_getI C dX4_placeFrom_2 fl_X4_19 rfl ev1 ?_
  refine r_iload_n C dX4_placeFrom_5 rfl ?_
  refine r_bipush (v := 100) C dX4_placeFrom_6 (by decide) ?_
  refine r_aload_n C dX4_placeFrom_8 rfl ?_
  obtain ⟨v2, ev2, hf⟩ := bS hf
  refine r_getI C dX4_placeFrom_9 fl_X4_22 rfl ev2 ?_
  refine r_imul C dX4_placeFrom_12 ?_
  obtain ⟨r3, er3, hf⟩ := bS hf
  refine r_invSN1 (As := [.inl p2, .inl (100 * v2)]) (host := "StageMachine") C dX4_placeFrom_13 mcX11_quotient (by decide) wd_572 ⟨by decide, by decide⟩ ⟨by decide, by decide⟩ rfl (Nat.le_of_ble_eq_true rfl) (kX11_quotient l G er3) ?_
  refine r_imul C dX4_placeFrom_16 ?_
  refine r_iadd C dX4_placeFrom_17 ?_
  exact r_iretF C dX4_placeFrom_18 hret hf (by decide) (by decide)

theorem dgX1_findDrum_0 : (decode cX1_findDrum 0 = .ok (.iconst 0, 1)) ∧ (decode cX1_findDrum 1 = .ok (.istore 4, 2)) ∧ (decode cX1_findDrum 3 = .ok (.iload 4, 2)) ∧ (decode cX1_findDrum 5 = .ok (.aload_n 0, 1)) ∧ (decode cX1_findDrum 6 = .ok (.getfield 21, 3)) ∧ (decode cX1_findDrum 9 = .ok (.getfield 97, 3)) ∧ (decode cX1_findDrum 12 = .ok (.if_icmp .ge 42, 3)) ∧ (decode cX1_findDrum 15 = .ok (.aload_n 1, 1)) ∧ (decode cX1_findDrum 16 = .ok (.aload_n 1, 1)) ∧ (decode cX1_findDrum 17 = .ok (.getfield 77, 3)) ∧ (decode cX1_findDrum 20 = .ok (.getfield 61, 3)) ∧ (decode cX1_findDrum 23 = .ok (.aload_n 0, 1)) ∧ True := dkW [(0, .iconst 0, 1), (1, .istore 4, 2), (3, .iload 4, 2), (5, .aload_n 0, 1), (6, .getfield 21, 3), (9, .getfield 97, 3), (12, .if_icmp .ge 42, 3), (15, .aload_n 1, 1), (16, .aload_n 1, 1), (17, .getfield 77, 3), (20, .getfield 61, 3), (23, .aload_n 0, 1)] 0 (by decide +kernel)
theorem dX1_findDrum_0 : decode cX1_findDrum 0 = .ok (.iconst 0, 1) := dgX1_findDrum_0.1
theorem dX1_findDrum_1 : decode cX1_findDrum 1 = .ok (.istore 4, 2) := dgX1_findDrum_0.2.1
theorem dX1_findDrum_3 : decode cX1_findDrum 3 = .ok (.iload 4, 2) := dgX1_findDrum_0.2.2.1
theorem dX1_findDrum_5 : decode cX1_findDrum 5 = .ok (.aload_n 0, 1) := dgX1_findDrum_0.2.2.2.1
theorem dX1_findDrum_6 : decode cX1_findDrum 6 = .ok (.getfield 21, 3) := dgX1_findDrum_0.2.2.2.2.1
theorem dX1_findDrum_9 : decode cX1_findDrum 9 = .ok (.getfield 97, 3) := dgX1_findDrum_0.2.2.2.2.2.1
theorem dX1_findDrum_12 : decode cX1_findDrum 12 = .ok (.if_icmp .ge 42, 3) := dgX1_findDrum_0.2.2.2.2.2.2.1
theorem dX1_findDrum_15 : decode cX1_findDrum 15 = .ok (.aload_n 1, 1) := dgX1_findDrum_0.2.2.2.2.2.2.2.1
theorem dX1_findDrum_16 : decode cX1_findDrum 16 = .ok (.aload_n 1, 1) := dgX1_findDrum_0.2.2.2.2.2.2.2.2.1
theorem dX1_findDrum_17 : decode cX1_findDrum 17 = .ok (.getfield 77, 3) := dgX1_findDrum_0.2.2.2.2.2.2.2.2.2.1
theorem dX1_findDrum_20 : decode cX1_findDrum 20 = .ok (.getfield 61, 3) := dgX1_findDrum_0.2.2.2.2.2.2.2.2.2.2.1
theorem dX1_findDrum_23 : decode cX1_findDrum 23 = .ok (.aload_n 0, 1) := dgX1_findDrum_0.2.2.2.2.2.2.2.2.2.2.2.1
theorem dgX1_findDrum_24 : (decode cX1_findDrum 24 = .ok (.getfield 21, 3)) ∧ (decode cX1_findDrum 27 = .ok (.getfield 100, 3)) ∧ (decode cX1_findDrum 30 = .ok (.iload 4, 2)) ∧ (decode cX1_findDrum 32 = .ok (.aaload, 1)) ∧ (decode cX1_findDrum 33 = .ok (.getfield 103, 3)) ∧ (decode cX1_findDrum 36 = .ok (.iload_n 3, 1)) ∧ (decode cX1_findDrum 37 = .ok (.imul, 1)) ∧ (decode cX1_findDrum 38 = .ok (.invokevirtual 108, 3)) ∧ (decode cX1_findDrum 41 = .ok (.iload_n 2, 1)) ∧ (decode cX1_findDrum 42 = .ok (.if_icmp .ne 6, 3)) ∧ (decode cX1_findDrum 45 = .ok (.iload 4, 2)) ∧ (decode cX1_findDrum 47 = .ok (.ireturn, 1)) ∧ True := dkW [(24, .getfield 21, 3), (27, .getfield 100, 3), (30, .iload 4, 2), (32, .aaload, 1), (33, .getfield 103, 3), (36, .iload_n 3, 1), (37, .imul, 1), (38, .invokevirtual 108, 3), (41, .iload_n 2, 1), (42, .if_icmp .ne 6, 3), (45, .iload 4, 2), (47, .ireturn, 1)] 24 (by decide +kernel)
theorem dX1_findDrum_24 : decode cX1_findDrum 24 = .ok (.getfield 21, 3) := dgX1_findDrum_24.1
theorem dX1_findDrum_27 : decode cX1_findDrum 27 = .ok (.getfield 100, 3) := dgX1_findDrum_24.2.1
theorem dX1_findDrum_30 : decode cX1_findDrum 30 = .ok (.iload 4, 2) := dgX1_findDrum_24.2.2.1
theorem dX1_findDrum_32 : decode cX1_findDrum 32 = .ok (.aaload, 1) := dgX1_findDrum_24.2.2.2.1
theorem dX1_findDrum_33 : decode cX1_findDrum 33 = .ok (.getfield 103, 3) := dgX1_findDrum_24.2.2.2.2.1
theorem dX1_findDrum_36 : decode cX1_findDrum 36 = .ok (.iload_n 3, 1) := dgX1_findDrum_24.2.2.2.2.2.1
theorem dX1_findDrum_37 : decode cX1_findDrum 37 = .ok (.imul, 1) := dgX1_findDrum_24.2.2.2.2.2.2.1
theorem dX1_findDrum_38 : decode cX1_findDrum 38 = .ok (.invokevirtual 108, 3) := dgX1_findDrum_24.2.2.2.2.2.2.2.1
theorem dX1_findDrum_41 : decode cX1_findDrum 41 = .ok (.iload_n 2, 1) := dgX1_findDrum_24.2.2.2.2.2.2.2.2.1
theorem dX1_findDrum_42 : decode cX1_findDrum 42 = .ok (.if_icmp .ne 6, 3) := dgX1_findDrum_24.2.2.2.2.2.2.2.2.2.1
theorem dX1_findDrum_45 : decode cX1_findDrum 45 = .ok (.iload 4, 2) := dgX1_findDrum_24.2.2.2.2.2.2.2.2.2.2.1
theorem dX1_findDrum_47 : decode cX1_findDrum 47 = .ok (.ireturn, 1) := dgX1_findDrum_24.2.2.2.2.2.2.2.2.2.2.2.1
theorem dgX1_findDrum_48 : (decode cX1_findDrum 48 = .ok (.iinc 4 1, 3)) ∧ (decode cX1_findDrum 51 = .ok (.goto (-48), 3)) ∧ True := dkW [(48, .iinc 4 1, 3), (51, .goto (-48), 3)] 48 (by decide +kernel)
theorem dX1_findDrum_48 : decode cX1_findDrum 48 = .ok (.iinc 4 1, 3) := dgX1_findDrum_48.1
theorem dX1_findDrum_51 : decode cX1_findDrum 51 = .ok (.goto (-48), 3) := dgX1_findDrum_48.2.1
theorem dX1_findDrum_54 : decode cX1_findDrum 54 = .ok (.iconst (-1), 1) := by decide +kernel
theorem dgX1_findDrum_55 : (decode cX1_findDrum 55 = .ok (.ireturn, 1)) ∧ True := dkW [(55, .ireturn, 1)] 55 (by decide +kernel)
theorem dX1_findDrum_55 : decode cX1_findDrum 55 = .ok (.ireturn, 1) := dgX1_findDrum_55.1
abbrev rmX1_findDrum : Room := { frames := 2, cells := 0, slots := 0, locals := 43 }
noncomputable def fX1_findDrum_b3_body (N : Nat)  (g3 : Hs → Option Nat → Int32 → Int32 → Int32 → Option (Int32 × Hs)) (t : Nat) (h : Hs) (w1 : Option Nat) (x2 : Int32) (x3 : Int32) (x4 : Int32) : Option (Int32 × Hs) :=
  (oR 1 0 h (some t)).bind fun o1 =>
  (oI 5 8 h o1).bind fun v2 =>
  if v2 ≤ x4 then (
  some ((-1), h))
  else (oR 4 1 h w1).bind fun o3 =>
  (oI 9 7 h o3).bind fun v4 =>
  (oR 1 0 h (some t)).bind fun o5 =>
  (oR 5 1 h o5).bind fun o6 =>
  (lQ 24 h o6 x4).bind fun o7 =>
  (oI 2 1 h o7).bind fun v8 =>
  (rc 4 h w1).bind fun a10 =>
  (fX4_placeFrom N h a10 v4 (v8 * x3)).bind fun r9 =>
  if r9.1 = x2 then (
  some (x4, r9.2))
  else (some (x4 + 1)).bind fun y11 =>
  g3 r9.2 w1 x2 x3 y11
noncomputable def fX1_findDrum_b3 (N : Nat)  (t : Nat) (n : Nat) : Hs → Option Nat → Int32 → Int32 → Int32 → Option (Int32 × Hs) := lp (fun _ _ _ _ _ => none) (fun g h w1 x2 x3 x4 => fX1_findDrum_b3_body N  g t h w1 x2 x3 x4) n
set_option maxHeartbeats 4000000 in
set_option maxRecDepth 20000 in
theorem wX1_findDrum_b3_body {p : Program} {l : Launch} {e : Env} {s : State} {m : MethodId} {args : Array Value} {below : List Frame} {meth : Method} {c : Code} {G : Gl} {N : Nat} {h : Hs} {r : Int32 × Hs}  {g3 : Hs → Option Nat → Int32 → Int32 → Int32 → Option (Int32 × Hs)} {t : Nat} {w1 : Option Nat} {x2 : Int32} {x3 : Int32} {x4 : Int32} (C : Cx p s m args meth c cX1_findDrum RX1 5 G) (hret : meth.sig.returnType = (some .int))  (hg3 : ∀ (h : Hs) (w1 : Option Nat) (x2 : Int32) (x3 : Int32) (x4 : Int32), g3 h w1 x2 x3 x4 = some r → V p l e rmX1_findDrum s m args below meth c G 5 (MQ below (QcG G (some (.inl r.1)) r.2) args s rmX1_findDrum.cells rmX1_findDrum.slots (AG G)) h 0 0 3 [some (.inr (some t)), some (.inr w1), some (.inl x2), some (.inl x3), some (.inl x4)] []) (hf : fX1_findDrum_b3_body N  g3 t h w1 x2 x3 x4 = some r) : V p l e rmX1_findDrum s m args below meth c G 5 (MQ below (QcG G (some (.inl r.1)) r.2) args s rmX1_findDrum.cells rmX1_findDrum.slots (AG G)) h 0 0 3 [some (.inr (some t)), some (.inr w1), some (.inl x2), some (.inl x3), some (.inl x4)] [] := by
  unfold fX1_findDrum_b3_body at hf
  refine r_iload C dX1_findDrum_3 rfl ?_
  refine r_aload_n C dX1_findDrum_5 rfl ?_
  obtain ⟨o1, eo1, hf⟩ := bS hf
  refine r_getR C dX1_findDrum_6 fl_X1_21 rfl eo1 ?_
  obtain ⟨v2, ev2, hf⟩ := bS hf
  refine r_getI C dX1_findDrum_9 fl_X1_97 rfl ev2 ?_
  refine r_icmp_ge (tgt := 54) C dX1_findDrum_12 (by decide) (fun hc => ?_) (fun hc => ?_)
  · have hf := ifT hf hc
    refine r_iconst (v := -1) C dX1_findDrum_54 (by decide) ?_
    exact r_iretF C dX1_findDrum_55 hret hf (by decide) (by decide)
  · have hf := ifF hf hc
    refine r_aload_n C dX1_findDrum_15 rfl ?_
    refine r_aload_n C dX1_findDrum_16 rfl ?_
    obtain ⟨o3, eo3, hf⟩ := bS hf
    refine r_getR C dX1_findDrum_17 fl_X1_77 rfl eo3 ?_
    obtain ⟨v4, ev4, hf⟩ := bS hf
    refine r_getI C dX1_findDrum_20 fl_X1_61 rfl ev4 ?_
    refine r_aload_n C dX1_findDrum_23 rfl ?_
    obtain ⟨o5, eo5, hf⟩ := bS hf
    refine r_getR C dX1_findDrum_24 fl_X1_21 rfl eo5 ?_
    obtain ⟨o6, eo6, hf⟩ := bS hf
    refine r_getR C dX1_findDrum_27 fl_X1_100 rfl eo6 ?_
    refine r_iload C dX1_findDrum_30 rfl ?_
    obtain ⟨o7, eo7, hf⟩ := bS hf
    refine r_qald (t := 4) C dX1_findDrum_32 (by decide) (by decide) rfl eo7 ?_
    obtain ⟨v8, ev8, hf⟩ := bS hf
    refine r_getI C dX1_findDrum_33 fl_X1_103 rfl ev8 ?_
    refine r_iload_n C dX1_findDrum_36 rfl ?_
    refine r_imul C dX1_findDrum_37 ?_
    obtain ⟨a10, ea10, hf⟩ := bS hf
    obtain ⟨r9, er9, hf⟩ := bS hf
    refine r_invV1 (As := [.inl v4, .inl (v8 * x3)]) (ci := 4) C dX1_findDrum_38 mcX4_placeFrom wd_720 wd_568 wd_569 rfl rfl (by decide) ⟨by decide, by decide⟩ ⟨by decide, by decide⟩ rfl (Nat.le_of_ble_eq_true rfl) ea10 (kX4_placeFrom l G er9) ?_
    refine r_iload_n C dX1_findDrum_41 rfl ?_
    refine r_icmp_ne (tgt := 48) C dX1_findDrum_42 (by decide) (fun hc => ?_) (fun hc => ?_)
    · have hf := ifF hf hc
      obtain ⟨y11, ey11, hf⟩ := bS hf
      refine r_iincE (v := 1) C dX1_findDrum_48 rfl (by decide) (by decide) ey11 ?_
      refine r_goto (tgt := 3) C dX1_findDrum_51 (by decide) ?_
      exact V.sub (hg3 _ _ _ _ _ hf) (LW_s rfl (LW_s rfl (LW_s rfl (LW_s rfl (LW_s rfl (LW_e))))))
    · have hf := ifT hf hc
      refine r_iload C dX1_findDrum_45 rfl ?_
      exact r_iretF C dX1_findDrum_47 hret hf (by decide) (by decide)
theorem wX1_findDrum_b3 {p : Program} {l : Launch} {e : Env} {s : State} {m : MethodId} {args : Array Value} {below : List Frame} {meth : Method} {c : Code} {G : Gl} {N : Nat} {r : Int32 × Hs}  {t : Nat} (C : Cx p s m args meth c cX1_findDrum RX1 5 G) (hret : meth.sig.returnType = (some .int))  : ∀ (n : Nat) (h : Hs) (w1 : Option Nat) (x2 : Int32) (x3 : Int32) (x4 : Int32), fX1_findDrum_b3 N  t n h w1 x2 x3 x4 = some r → V p l e rmX1_findDrum s m args below meth c G 5 (MQ below (QcG G (some (.inl r.1)) r.2) args s rmX1_findDrum.cells rmX1_findDrum.slots (AG G)) h 0 0 3 [some (.inr (some t)), some (.inr w1), some (.inl x2), some (.inl x3), some (.inl x4)] [] := by
  intro n
  induction n with
  | zero => intro h w1 x2 x3 x4 hf; exact absurd (show (none : Option (Int32 × Hs)) = some r from hf) (fun q => by cases q)
  | succ n ih => intro h w1 x2 x3 x4 hf; exact wX1_findDrum_b3_body C hret  ih (show fX1_findDrum_b3_body N  (fX1_findDrum_b3 N  t n) t h w1 x2 x3 x4 = some r from hf)
noncomputable def fX1_findDrum (N : Nat) (h : Hs) (t : Nat) (p1 : Option Nat) (p2 : Int32) (p3 : Int32) : Option (Int32 × Hs) :=
  fX1_findDrum_b3 N t N h p1 p2 p3 0
set_option maxHeartbeats 4000000 in
set_option maxRecDepth 20000 in
theorem kX1_findDrum (l : Launch) (G : Gl) {N : Nat} {h : Hs} {t : Nat} {p1 : Option Nat} {p2 : Int32} {p3 : Int32} {r : Int32 × Hs} (hf : fX1_findDrum N h t p1 p2 p3 = some r) : CT l G yX1_findDrum cX1_findDrum 5 (some .int) rmX1_findDrum [.inr (some t), .inr p1, .inl p2, .inl p3] h (some (.inl r.1)) r.2 := by
  refine mk_CT (by decide) (Nat.le_of_ble_eq_true rfl) ?_
  intro p e s m args below meth c C hret hin
  unfold fX1_findDrum at hf
  refine r_iconst (v := 0) C dX1_findDrum_0 (by decide) ?_
  refine r_istore C dX1_findDrum_1 (by decide) ?_
  exact V.sub (wX1_findDrum_b3 C hret N _ _ _ _ _ hf) (LW_s rfl (LW_s rfl (LW_s rfl (LW_s rfl (LW_s rfl (LW_e))))))

theorem dgX1_findTie_0 : (decode cX1_findTie 0 = .ok (.iconst 0, 1)) ∧ (decode cX1_findTie 1 = .ok (.istore 4, 2)) ∧ (decode cX1_findTie 3 = .ok (.iload 4, 2)) ∧ (decode cX1_findTie 5 = .ok (.aload_n 0, 1)) ∧ (decode cX1_findTie 6 = .ok (.getfield 21, 3)) ∧ (decode cX1_findTie 9 = .ok (.getfield 71, 3)) ∧ (decode cX1_findTie 12 = .ok (.if_icmp .ge 101, 3)) ∧ (decode cX1_findTie 15 = .ok (.aload_n 0, 1)) ∧ (decode cX1_findTie 16 = .ok (.getfield 21, 3)) ∧ (decode cX1_findTie 19 = .ok (.getfield 74, 3)) ∧ (decode cX1_findTie 22 = .ok (.iload 4, 2)) ∧ (decode cX1_findTie 24 = .ok (.aaload, 1)) ∧ True := dkW [(0, .iconst 0, 1), (1, .istore 4, 2), (3, .iload 4, 2), (5, .aload_n 0, 1), (6, .getfield 21, 3), (9, .getfield 71, 3), (12, .if_icmp .ge 101, 3), (15, .aload_n 0, 1), (16, .getfield 21, 3), (19, .getfield 74, 3), (22, .iload 4, 2), (24, .aaload, 1)] 0 (by decide +kernel)
theorem dX1_findTie_0 : decode cX1_findTie 0 = .ok (.iconst 0, 1) := dgX1_findTie_0.1
theorem dX1_findTie_1 : decode cX1_findTie 1 = .ok (.istore 4, 2) := dgX1_findTie_0.2.1
theorem dX1_findTie_3 : decode cX1_findTie 3 = .ok (.iload 4, 2) := dgX1_findTie_0.2.2.1
theorem dX1_findTie_5 : decode cX1_findTie 5 = .ok (.aload_n 0, 1) := dgX1_findTie_0.2.2.2.1
theorem dX1_findTie_6 : decode cX1_findTie 6 = .ok (.getfield 21, 3) := dgX1_findTie_0.2.2.2.2.1
theorem dX1_findTie_9 : decode cX1_findTie 9 = .ok (.getfield 71, 3) := dgX1_findTie_0.2.2.2.2.2.1
theorem dX1_findTie_12 : decode cX1_findTie 12 = .ok (.if_icmp .ge 101, 3) := dgX1_findTie_0.2.2.2.2.2.2.1
theorem dX1_findTie_15 : decode cX1_findTie 15 = .ok (.aload_n 0, 1) := dgX1_findTie_0.2.2.2.2.2.2.2.1
theorem dX1_findTie_16 : decode cX1_findTie 16 = .ok (.getfield 21, 3) := dgX1_findTie_0.2.2.2.2.2.2.2.2.1
theorem dX1_findTie_19 : decode cX1_findTie 19 = .ok (.getfield 74, 3) := dgX1_findTie_0.2.2.2.2.2.2.2.2.2.1
theorem dX1_findTie_22 : decode cX1_findTie 22 = .ok (.iload 4, 2) := dgX1_findTie_0.2.2.2.2.2.2.2.2.2.2.1
theorem dX1_findTie_24 : decode cX1_findTie 24 = .ok (.aaload, 1) := dgX1_findTie_0.2.2.2.2.2.2.2.2.2.2.2.1
theorem dgX1_findTie_25 : (decode cX1_findTie 25 = .ok (.astore 5, 2)) ∧ (decode cX1_findTie 27 = .ok (.aload 5, 2)) ∧ (decode cX1_findTie 29 = .ok (.getfield 77, 3)) ∧ (decode cX1_findTie 32 = .ok (.aload_n 1, 1)) ∧ (decode cX1_findTie 33 = .ok (.if_acmp .ne 23, 3)) ∧ (decode cX1_findTie 36 = .ok (.aload 5, 2)) ∧ (decode cX1_findTie 38 = .ok (.getfield 83, 3)) ∧ (decode cX1_findTie 41 = .ok (.ifCond .ne 15, 3)) ∧ (decode cX1_findTie 44 = .ok (.aload 5, 2)) ∧ (decode cX1_findTie 46 = .ok (.invokevirtual 86, 3)) ∧ (decode cX1_findTie 49 = .ok (.ifCond .lt 7, 3)) ∧ (decode cX1_findTie 52 = .ok (.iconst 1, 1)) ∧ True := dkW [(25, .astore 5, 2), (27, .aload 5, 2), (29, .getfield 77, 3), (32, .aload_n 1, 1), (33, .if_acmp .ne 23, 3), (36, .aload 5, 2), (38, .getfield 83, 3), (41, .ifCond .ne 15, 3), (44, .aload 5, 2), (46, .invokevirtual 86, 3), (49, .ifCond .lt 7, 3), (52, .iconst 1, 1)] 25 (by decide +kernel)
theorem dX1_findTie_25 : decode cX1_findTie 25 = .ok (.astore 5, 2) := dgX1_findTie_25.1
theorem dX1_findTie_27 : decode cX1_findTie 27 = .ok (.aload 5, 2) := dgX1_findTie_25.2.1
theorem dX1_findTie_29 : decode cX1_findTie 29 = .ok (.getfield 77, 3) := dgX1_findTie_25.2.2.1
theorem dX1_findTie_32 : decode cX1_findTie 32 = .ok (.aload_n 1, 1) := dgX1_findTie_25.2.2.2.1
theorem dX1_findTie_33 : decode cX1_findTie 33 = .ok (.if_acmp .ne 23, 3) := dgX1_findTie_25.2.2.2.2.1
theorem dX1_findTie_36 : decode cX1_findTie 36 = .ok (.aload 5, 2) := dgX1_findTie_25.2.2.2.2.2.1
theorem dX1_findTie_38 : decode cX1_findTie 38 = .ok (.getfield 83, 3) := dgX1_findTie_25.2.2.2.2.2.2.1
theorem dX1_findTie_41 : decode cX1_findTie 41 = .ok (.ifCond .ne 15, 3) := dgX1_findTie_25.2.2.2.2.2.2.2.1
theorem dX1_findTie_44 : decode cX1_findTie 44 = .ok (.aload 5, 2) := dgX1_findTie_25.2.2.2.2.2.2.2.2.1
theorem dX1_findTie_46 : decode cX1_findTie 46 = .ok (.invokevirtual 86, 3) := dgX1_findTie_25.2.2.2.2.2.2.2.2.2.1
theorem dX1_findTie_49 : decode cX1_findTie 49 = .ok (.ifCond .lt 7, 3) := dgX1_findTie_25.2.2.2.2.2.2.2.2.2.2.1
theorem dX1_findTie_52 : decode cX1_findTie 52 = .ok (.iconst 1, 1) := dgX1_findTie_25.2.2.2.2.2.2.2.2.2.2.2.1
theorem dgX1_findTie_53 : (decode cX1_findTie 53 = .ok (.goto 4, 3)) ∧ (decode cX1_findTie 56 = .ok (.iconst 0, 1)) ∧ (decode cX1_findTie 57 = .ok (.istore 6, 2)) ∧ (decode cX1_findTie 59 = .ok (.iload 6, 2)) ∧ (decode cX1_findTie 61 = .ok (.ifCond .eq 14, 3)) ∧ (decode cX1_findTie 64 = .ok (.aload_n 0, 1)) ∧ (decode cX1_findTie 65 = .ok (.aload 5, 2)) ∧ (decode cX1_findTie 67 = .ok (.iload_n 2, 1)) ∧ (decode cX1_findTie 68 = .ok (.iload_n 3, 1)) ∧ (decode cX1_findTie 69 = .ok (.invokevirtual 90, 3)) ∧ (decode cX1_findTie 72 = .ok (.goto 4, 3)) ∧ True := dkW [(53, .goto 4, 3), (56, .iconst 0, 1), (57, .istore 6, 2), (59, .iload 6, 2), (61, .ifCond .eq 14, 3), (64, .aload_n 0, 1), (65, .aload 5, 2), (67, .iload_n 2, 1), (68, .iload_n 3, 1), (69, .invokevirtual 90, 3), (72, .goto 4, 3)] 53 (by decide +kernel)
theorem dX1_findTie_53 : decode cX1_findTie 53 = .ok (.goto 4, 3) := dgX1_findTie_53.1
theorem dX1_findTie_56 : decode cX1_findTie 56 = .ok (.iconst 0, 1) := dgX1_findTie_53.2.1
theorem dX1_findTie_57 : decode cX1_findTie 57 = .ok (.istore 6, 2) := dgX1_findTie_53.2.2.1
theorem dX1_findTie_59 : decode cX1_findTie 59 = .ok (.iload 6, 2) := dgX1_findTie_53.2.2.2.1
theorem dX1_findTie_61 : decode cX1_findTie 61 = .ok (.ifCond .eq 14, 3) := dgX1_findTie_53.2.2.2.2.1
theorem dX1_findTie_64 : decode cX1_findTie 64 = .ok (.aload_n 0, 1) := dgX1_findTie_53.2.2.2.2.2.1
theorem dX1_findTie_65 : decode cX1_findTie 65 = .ok (.aload 5, 2) := dgX1_findTie_53.2.2.2.2.2.2.1
theorem dX1_findTie_67 : decode cX1_findTie 67 = .ok (.iload_n 2, 1) := dgX1_findTie_53.2.2.2.2.2.2.2.1
theorem dX1_findTie_68 : decode cX1_findTie 68 = .ok (.iload_n 3, 1) := dgX1_findTie_53.2.2.2.2.2.2.2.2.1
theorem dX1_findTie_69 : decode cX1_findTie 69 = .ok (.invokevirtual 90, 3) := dgX1_findTie_53.2.2.2.2.2.2.2.2.2.1
theorem dX1_findTie_72 : decode cX1_findTie 72 = .ok (.goto 4, 3) := dgX1_findTie_53.2.2.2.2.2.2.2.2.2.2.1
theorem dX1_findTie_75 : decode cX1_findTie 75 = .ok (.iconst (-1), 1) := by decide +kernel
theorem dgX1_findTie_76 : (decode cX1_findTie 76 = .ok (.istore 7, 2)) ∧ (decode cX1_findTie 78 = .ok (.iload 7, 2)) ∧ (decode cX1_findTie 80 = .ok (.ifCond .lt 27, 3)) ∧ (decode cX1_findTie 83 = .ok (.aload_n 0, 1)) ∧ (decode cX1_findTie 84 = .ok (.getfield 9, 3)) ∧ (decode cX1_findTie 87 = .ok (.aload_n 1, 1)) ∧ (decode cX1_findTie 88 = .ok (.getfield 94, 3)) ∧ (decode cX1_findTie 91 = .ok (.iload 4, 2)) ∧ (decode cX1_findTie 93 = .ok (.iastore, 1)) ∧ (decode cX1_findTie 94 = .ok (.aload_n 0, 1)) ∧ (decode cX1_findTie 95 = .ok (.getfield 15, 3)) ∧ (decode cX1_findTie 98 = .ok (.aload_n 1, 1)) ∧ True := dkW [(76, .istore 7, 2), (78, .iload 7, 2), (80, .ifCond .lt 27, 3), (83, .aload_n 0, 1), (84, .getfield 9, 3), (87, .aload_n 1, 1), (88, .getfield 94, 3), (91, .iload 4, 2), (93, .iastore, 1), (94, .aload_n 0, 1), (95, .getfield 15, 3), (98, .aload_n 1, 1)] 76 (by decide +kernel)
theorem dX1_findTie_76 : decode cX1_findTie 76 = .ok (.istore 7, 2) := dgX1_findTie_76.1
theorem dX1_findTie_78 : decode cX1_findTie 78 = .ok (.iload 7, 2) := dgX1_findTie_76.2.1
theorem dX1_findTie_80 : decode cX1_findTie 80 = .ok (.ifCond .lt 27, 3) := dgX1_findTie_76.2.2.1
theorem dX1_findTie_83 : decode cX1_findTie 83 = .ok (.aload_n 0, 1) := dgX1_findTie_76.2.2.2.1
theorem dX1_findTie_84 : decode cX1_findTie 84 = .ok (.getfield 9, 3) := dgX1_findTie_76.2.2.2.2.1
theorem dX1_findTie_87 : decode cX1_findTie 87 = .ok (.aload_n 1, 1) := dgX1_findTie_76.2.2.2.2.2.1
theorem dX1_findTie_88 : decode cX1_findTie 88 = .ok (.getfield 94, 3) := dgX1_findTie_76.2.2.2.2.2.2.1
theorem dX1_findTie_91 : decode cX1_findTie 91 = .ok (.iload 4, 2) := dgX1_findTie_76.2.2.2.2.2.2.2.1
theorem dX1_findTie_93 : decode cX1_findTie 93 = .ok (.iastore, 1) := dgX1_findTie_76.2.2.2.2.2.2.2.2.1
theorem dX1_findTie_94 : decode cX1_findTie 94 = .ok (.aload_n 0, 1) := dgX1_findTie_76.2.2.2.2.2.2.2.2.2.1
theorem dX1_findTie_95 : decode cX1_findTie 95 = .ok (.getfield 15, 3) := dgX1_findTie_76.2.2.2.2.2.2.2.2.2.2.1
theorem dX1_findTie_98 : decode cX1_findTie 98 = .ok (.aload_n 1, 1) := dgX1_findTie_76.2.2.2.2.2.2.2.2.2.2.2.1
theorem dgX1_findTie_99 : (decode cX1_findTie 99 = .ok (.getfield 94, 3)) ∧ (decode cX1_findTie 102 = .ok (.iload 7, 2)) ∧ (decode cX1_findTie 104 = .ok (.iastore, 1)) ∧ (decode cX1_findTie 105 = .ok (.iconst 1, 1)) ∧ (decode cX1_findTie 106 = .ok (.ireturn, 1)) ∧ (decode cX1_findTie 107 = .ok (.iinc 4 1, 3)) ∧ (decode cX1_findTie 110 = .ok (.goto (-107), 3)) ∧ (decode cX1_findTie 113 = .ok (.aload_n 0, 1)) ∧ (decode cX1_findTie 114 = .ok (.getfield 9, 3)) ∧ (decode cX1_findTie 117 = .ok (.aload_n 1, 1)) ∧ (decode cX1_findTie 118 = .ok (.getfield 94, 3)) ∧ (decode cX1_findTie 121 = .ok (.bipush (-2), 2)) ∧ True := dkW [(99, .getfield 94, 3), (102, .iload 7, 2), (104, .iastore, 1), (105, .iconst 1, 1), (106, .ireturn, 1), (107, .iinc 4 1, 3), (110, .goto (-107), 3), (113, .aload_n 0, 1), (114, .getfield 9, 3), (117, .aload_n 1, 1), (118, .getfield 94, 3), (121, .bipush (-2), 2)] 99 (by decide +kernel)
theorem dX1_findTie_99 : decode cX1_findTie 99 = .ok (.getfield 94, 3) := dgX1_findTie_99.1
theorem dX1_findTie_102 : decode cX1_findTie 102 = .ok (.iload 7, 2) := dgX1_findTie_99.2.1
theorem dX1_findTie_104 : decode cX1_findTie 104 = .ok (.iastore, 1) := dgX1_findTie_99.2.2.1
theorem dX1_findTie_105 : decode cX1_findTie 105 = .ok (.iconst 1, 1) := dgX1_findTie_99.2.2.2.1
theorem dX1_findTie_106 : decode cX1_findTie 106 = .ok (.ireturn, 1) := dgX1_findTie_99.2.2.2.2.1
theorem dX1_findTie_107 : decode cX1_findTie 107 = .ok (.iinc 4 1, 3) := dgX1_findTie_99.2.2.2.2.2.1
theorem dX1_findTie_110 : decode cX1_findTie 110 = .ok (.goto (-107), 3) := dgX1_findTie_99.2.2.2.2.2.2.1
theorem dX1_findTie_113 : decode cX1_findTie 113 = .ok (.aload_n 0, 1) := dgX1_findTie_99.2.2.2.2.2.2.2.1
theorem dX1_findTie_114 : decode cX1_findTie 114 = .ok (.getfield 9, 3) := dgX1_findTie_99.2.2.2.2.2.2.2.2.1
theorem dX1_findTie_117 : decode cX1_findTie 117 = .ok (.aload_n 1, 1) := dgX1_findTie_99.2.2.2.2.2.2.2.2.2.1
theorem dX1_findTie_118 : decode cX1_findTie 118 = .ok (.getfield 94, 3) := dgX1_findTie_99.2.2.2.2.2.2.2.2.2.2.1
theorem dX1_findTie_121 : decode cX1_findTie 121 = .ok (.bipush (-2), 2) := dgX1_findTie_99.2.2.2.2.2.2.2.2.2.2.2.1
theorem dgX1_findTie_123 : (decode cX1_findTie 123 = .ok (.iastore, 1)) ∧ (decode cX1_findTie 124 = .ok (.aload_n 0, 1)) ∧ (decode cX1_findTie 125 = .ok (.getfield 15, 3)) ∧ (decode cX1_findTie 128 = .ok (.aload_n 1, 1)) ∧ (decode cX1_findTie 129 = .ok (.getfield 94, 3)) ∧ (decode cX1_findTie 132 = .ok (.bipush (-2), 2)) ∧ (decode cX1_findTie 134 = .ok (.iastore, 1)) ∧ (decode cX1_findTie 135 = .ok (.iconst 0, 1)) ∧ (decode cX1_findTie 136 = .ok (.ireturn, 1)) ∧ True := dkW [(123, .iastore, 1), (124, .aload_n 0, 1), (125, .getfield 15, 3), (128, .aload_n 1, 1), (129, .getfield 94, 3), (132, .bipush (-2), 2), (134, .iastore, 1), (135, .iconst 0, 1), (136, .ireturn, 1)] 123 (by decide +kernel)
theorem dX1_findTie_123 : decode cX1_findTie 123 = .ok (.iastore, 1) := dgX1_findTie_123.1
theorem dX1_findTie_124 : decode cX1_findTie 124 = .ok (.aload_n 0, 1) := dgX1_findTie_123.2.1
theorem dX1_findTie_125 : decode cX1_findTie 125 = .ok (.getfield 15, 3) := dgX1_findTie_123.2.2.1
theorem dX1_findTie_128 : decode cX1_findTie 128 = .ok (.aload_n 1, 1) := dgX1_findTie_123.2.2.2.1
theorem dX1_findTie_129 : decode cX1_findTie 129 = .ok (.getfield 94, 3) := dgX1_findTie_123.2.2.2.2.1
theorem dX1_findTie_132 : decode cX1_findTie 132 = .ok (.bipush (-2), 2) := dgX1_findTie_123.2.2.2.2.2.1
theorem dX1_findTie_134 : decode cX1_findTie 134 = .ok (.iastore, 1) := dgX1_findTie_123.2.2.2.2.2.2.1
theorem dX1_findTie_135 : decode cX1_findTie 135 = .ok (.iconst 0, 1) := dgX1_findTie_123.2.2.2.2.2.2.2.1
theorem dX1_findTie_136 : decode cX1_findTie 136 = .ok (.ireturn, 1) := dgX1_findTie_123.2.2.2.2.2.2.2.2.1
abbrev rmX1_findTie : Room := { frames := 3, cells := 0, slots := 0, locals := 67 }
noncomputable def fX1_findTie_b76 (N : Nat) (g3 : Hs → Option Nat → Int32 → Int32 → Int32 → Option (Int32 × Hs)) (t : Nat) (h : Hs) (w1 : Option Nat) (x2 : Int32) (x3 : Int32) (x4 : Int32) (u0 : Int32) : Option (Int32 × Hs) :=
  if u0 < 0 then (
  (some (x4 + 1)).bind fun y1 =>
  g3 h w1 x2 x3 y1)
  else (oR 1 1 h (some t)).bind fun o2 =>
  (oI 9 0 h w1).bind fun v3 =>
  (sA h o2 v3 x4).bind fun h4 =>
  (oR 1 2 h4 (some t)).bind fun o5 =>
  (oI 9 0 h4 w1).bind fun v6 =>
  (sA h4 o5 v6 u0).bind fun h7 =>
  some (1, h7)
set_option maxHeartbeats 4000000 in
set_option maxRecDepth 20000 in
theorem wX1_findTie_b76 {p : Program} {l : Launch} {e : Env} {s : State} {m : MethodId} {args : Array Value} {below : List Frame} {meth : Method} {c : Code} {G : Gl} {N : Nat} {h : Hs} {r : Int32 × Hs} {g3 : Hs → Option Nat → Int32 → Int32 → Int32 → Option (Int32 × Hs)} {t : Nat} {w1 : Option Nat} {x2 : Int32} {x3 : Int32} {x4 : Int32} {u0 : Int32} (C : Cx p s m args meth c cX1_findTie RX1 8 G) (hret : meth.sig.returnType = (some .boolean)) (hg3 : ∀ (h : Hs) (w1 : Option Nat) (x2 : Int32) (x3 : Int32) (x4 : Int32), g3 h w1 x2 x3 x4 = some r → V p l e rmX1_findTie s m args below meth c G 8 (MQ below (QcG G (some (.inl r.1)) r.2) args s rmX1_findTie.cells rmX1_findTie.slots (AG G)) h 0 0 3 [some (.inr (some t)), some (.inr w1), some (.inl x2), some (.inl x3), some (.inl x4), none, none, none] []) (hf : fX1_findTie_b76 N g3 t h w1 x2 x3 x4 u0 = some r) : V p l e rmX1_findTie s m args below meth c G 8 (MQ below (QcG G (some (.inl r.1)) r.2) args s rmX1_findTie.cells rmX1_findTie.slots (AG G)) h 0 0 76 [some (.inr (some t)), some (.inr w1), some (.inl x2), some (.inl x3), some (.inl x4), none, none, none] [.inl u0] := by
  unfold fX1_findTie_b76 at hf
  refine r_istore C dX1_findTie_76 (by decide) ?_
  refine r_iload C dX1_findTie_78 rfl ?_
  refine r_if_lt (tgt := 107) C dX1_findTie_80 (by decide) (fun hc => ?_) (fun hc => ?_)
  · have hf := ifT hf hc
    obtain ⟨y1, ey1, hf⟩ := bS hf
    refine r_iincE (v := 1) C dX1_findTie_107 rfl (by decide) (by decide) ey1 ?_
    refine r_goto (tgt := 3) C dX1_findTie_110 (by decide) ?_
    exact V.sub (hg3 _ _ _ _ _ hf) (LW_s rfl (LW_s rfl (LW_s rfl (LW_s rfl (LW_s rfl (LW_n (LW_n (LW_n (LW_e)))))))))
  · have hf := ifF hf hc
    refine r_aload_n C dX1_findTie_83 rfl ?_
    obtain ⟨o2, eo2, hf⟩ := bS hf
    refine r_getR C dX1_findTie_84 fl_X1_9 rfl eo2 ?_
    refine r_aload_n C dX1_findTie_87 rfl ?_
    obtain ⟨v3, ev3, hf⟩ := bS hf
    refine r_getI C dX1_findTie_88 fl_X1_94 rfl ev3 ?_
    refine r_iload C dX1_findTie_91 rfl ?_
    obtain ⟨h4, eh4, hf⟩ := bS hf
    refine r_iast C dX1_findTie_93 eh4 ?_
    refine r_aload_n C dX1_findTie_94 rfl ?_
    obtain ⟨o5, eo5, hf⟩ := bS hf
    refine r_getR C dX1_findTie_95 fl_X1_15 rfl eo5 ?_
    refine r_aload_n C dX1_findTie_98 rfl ?_
    obtain ⟨v6, ev6, hf⟩ := bS hf
    refine r_getI C dX1_findTie_99 fl_X1_94 rfl ev6 ?_
    refine r_iload C dX1_findTie_102 rfl ?_
    obtain ⟨h7, eh7, hf⟩ := bS hf
    refine r_iast C dX1_findTie_104 eh7 ?_
    refine r_iconst (v := 1) C dX1_findTie_105 (by decide) ?_
    exact r_zretF C dX1_findTie_106 hret (z := 1) rfl hf (by decide) (by decide)
noncomputable def fX1_findTie_b57 (N : Nat) (g3 : Hs → Option Nat → Int32 → Int32 → Int32 → Option (Int32 × Hs)) (t : Nat) (h : Hs) (w1 : Option Nat) (x2 : Int32) (x3 : Int32) (x4 : Int32) (w5 : Option Nat) (u0 : Int32) : Option (Int32 × Hs) :=
  if u0 = 0 then (
  fX1_findTie_b76 N g3 t h w1 x2 x3 x4 (-1))
  else (rc 1 h (some t)).bind fun a2 =>
  (fX1_findDrum N h a2 w5 x2 x3).bind fun r1 =>
  fX1_findTie_b76 N g3 t r1.2 w1 x2 x3 x4 r1.1
set_option maxHeartbeats 4000000 in
set_option maxRecDepth 20000 in
theorem wX1_findTie_b57 {p : Program} {l : Launch} {e : Env} {s : State} {m : MethodId} {args : Array Value} {below : List Frame} {meth : Method} {c : Code} {G : Gl} {N : Nat} {h : Hs} {r : Int32 × Hs} {g3 : Hs → Option Nat → Int32 → Int32 → Int32 → Option (Int32 × Hs)} {t : Nat} {w1 : Option Nat} {x2 : Int32} {x3 : Int32} {x4 : Int32} {w5 : Option Nat} {u0 : Int32} (C : Cx p s m args meth c cX1_findTie RX1 8 G) (hret : meth.sig.returnType = (some .boolean)) (hg3 : ∀ (h : Hs) (w1 : Option Nat) (x2 : Int32) (x3 : Int32) (x4 : Int32), g3 h w1 x2 x3 x4 = some r → V p l e rmX1_findTie s m args below meth c G 8 (MQ below (QcG G (some (.inl r.1)) r.2) args s rmX1_findTie.cells rmX1_findTie.slots (AG G)) h 0 0 3 [some (.inr (some t)), some (.inr w1), some (.inl x2), some (.inl x3), some (.inl x4), none, none, none] []) (hf : fX1_findTie_b57 N g3 t h w1 x2 x3 x4 w5 u0 = some r) : V p l e rmX1_findTie s m args below meth c G 8 (MQ below (QcG G (some (.inl r.1)) r.2) args s rmX1_findTie.cells rmX1_findTie.slots (AG G)) h 0 0 57 [some (.inr (some t)), some (.inr w1), some (.inl x2), some (.inl x3), some (.inl x4), some (.inr w5), none, none] [.inl u0] := by
  unfold fX1_findTie_b57 at hf
  refine r_istore C dX1_findTie_57 (by decide) ?_
  refine r_iload C dX1_findTie_59 rfl ?_
  refine r_if_eq (tgt := 75) C dX1_findTie_61 (by decide) (fun hc => ?_) (fun hc => ?_)
  · have hf := ifT hf hc
    refine r_iconst (v := -1) C dX1_findTie_75 (by decide) ?_
    exact V.sub (wX1_findTie_b76 C hret hg3 hf) (LW_s rfl (LW_s rfl (LW_s rfl (LW_s rfl (LW_s rfl (LW_n (LW_n (LW_n (LW_e)))))))))
  · have hf := ifF hf hc
    refine r_aload_n C dX1_findTie_64 rfl ?_
    refine r_aload C dX1_findTie_65 rfl ?_
    refine r_iload_n C dX1_findTie_67 rfl ?_
    refine r_iload_n C dX1_findTie_68 rfl ?_
    obtain ⟨a2, ea2, hf⟩ := bS hf
    obtain ⟨r1, er1, hf⟩ := bS hf
    refine r_invV1 (As := [.inr w5, .inl x2, .inl x3]) (ci := 1) C dX1_findTie_69 mcX1_findDrum wd_716 wd_718 wp_9 rfl rfl (by decide) ⟨by decide, by decide⟩ ⟨by decide, by decide⟩ rfl (Nat.le_of_ble_eq_true rfl) ea2 (kX1_findDrum l G er1) ?_
    refine r_goto (tgt := 76) C dX1_findTie_72 (by decide) ?_
    exact V.sub (wX1_findTie_b76 C hret hg3 hf) (LW_s rfl (LW_s rfl (LW_s rfl (LW_s rfl (LW_s rfl (LW_n (LW_n (LW_n (LW_e)))))))))
noncomputable def fX1_findTie_b56 (N : Nat) (g3 : Hs → Option Nat → Int32 → Int32 → Int32 → Option (Int32 × Hs)) (t : Nat) (h : Hs) (w1 : Option Nat) (x2 : Int32) (x3 : Int32) (x4 : Int32) (w5 : Option Nat) : Option (Int32 × Hs) :=
  fX1_findTie_b57 N g3 t h w1 x2 x3 x4 w5 0
set_option maxHeartbeats 4000000 in
set_option maxRecDepth 20000 in
theorem wX1_findTie_b56 {p : Program} {l : Launch} {e : Env} {s : State} {m : MethodId} {args : Array Value} {below : List Frame} {meth : Method} {c : Code} {G : Gl} {N : Nat} {h : Hs} {r : Int32 × Hs} {g3 : Hs → Option Nat → Int32 → Int32 → Int32 → Option (Int32 × Hs)} {t : Nat} {w1 : Option Nat} {x2 : Int32} {x3 : Int32} {x4 : Int32} {w5 : Option Nat} (C : Cx p s m args meth c cX1_findTie RX1 8 G) (hret : meth.sig.returnType = (some .boolean)) (hg3 : ∀ (h : Hs) (w1 : Option Nat) (x2 : Int32) (x3 : Int32) (x4 : Int32), g3 h w1 x2 x3 x4 = some r → V p l e rmX1_findTie s m args below meth c G 8 (MQ below (QcG G (some (.inl r.1)) r.2) args s rmX1_findTie.cells rmX1_findTie.slots (AG G)) h 0 0 3 [some (.inr (some t)), some (.inr w1), some (.inl x2), some (.inl x3), some (.inl x4), none, none, none] []) (hf : fX1_findTie_b56 N g3 t h w1 x2 x3 x4 w5 = some r) : V p l e rmX1_findTie s m args below meth c G 8 (MQ below (QcG G (some (.inl r.1)) r.2) args s rmX1_findTie.cells rmX1_findTie.slots (AG G)) h 0 0 56 [some (.inr (some t)), some (.inr w1), some (.inl x2), some (.inl x3), some (.inl x4), some (.inr w5), none, none] [] := by
  unfold fX1_findTie_b56 at hf
  refine r_iconst (v := 0) C dX1_findTie_56 (by decide) ?_
  exact V.sub (wX1_findTie_b57 C hret hg3 hf) (LW_s rfl (LW_s rfl (LW_s rfl (LW_s rfl (LW_s rfl (LW_s rfl (LW_n (LW_n (LW_e)))))))))
noncomputable def fX1_findTie_b3_body (N : Nat)  (g3 : Hs → Option Nat → Int32 → Int32 → Int32 → Option (Int32 × Hs)) (t : Nat) (h : Hs) (w1 : Option Nat) (x2 : Int32) (x3 : Int32) (x4 : Int32) : Option (Int32 × Hs) :=
  (oR 1 0 h (some t)).bind fun o1 =>
  (oI 5 9 h o1).bind fun v2 =>
  if v2 ≤ x4 then (
  (oR 1 1 h (some t)).bind fun o3 =>
  (oI 9 0 h w1).bind fun v4 =>
  (sA h o3 v4 (-2)).bind fun h5 =>
  (oR 1 2 h5 (some t)).bind fun o6 =>
  (oI 9 0 h5 w1).bind fun v7 =>
  (sA h5 o6 v7 (-2)).bind fun h8 =>
  some (0, h8))
  else (oR 1 0 h (some t)).bind fun o9 =>
  (oR 5 2 h o9).bind fun o10 =>
  (lQ 25 h o10 x4).bind fun o11 =>
  (oR 4 1 h o11).bind fun o12 =>
  if o12 = w1 then (
  (oI 4 8 h o11).bind fun v13 =>
  if v13 = 0 then (
  (rc 4 h o11).bind fun a15 =>
  (fX4_spare N h a15 ).bind fun r14 =>
  if r14.1 < 0 then (
  fX1_findTie_b56 N g3 t r14.2 w1 x2 x3 x4 o11)
  else fX1_findTie_b57 N g3 t r14.2 w1 x2 x3 x4 o11 1)
  else fX1_findTie_b56 N g3 t h w1 x2 x3 x4 o11)
  else fX1_findTie_b56 N g3 t h w1 x2 x3 x4 o11
noncomputable def fX1_findTie_b3 (N : Nat)  (t : Nat) (n : Nat) : Hs → Option Nat → Int32 → Int32 → Int32 → Option (Int32 × Hs) := lp (fun _ _ _ _ _ => none) (fun g h w1 x2 x3 x4 => fX1_findTie_b3_body N  g t h w1 x2 x3 x4) n
set_option maxHeartbeats 4000000 in
set_option maxRecDepth 20000 in
theorem wX1_findTie_b3_body {p : Program} {l : Launch} {e : Env} {s : State} {m : MethodId} {args : Array Value} {below : List Frame} {meth : Method} {c : Code} {G : Gl} {N : Nat} {h : Hs} {r : Int32 × Hs}  {g3 : Hs → Option Nat → Int32 → Int32 → Int32 → Option (Int32 × Hs)} {t : Nat} {w1 : Option Nat} {x2 : Int32} {x3 : Int32} {x4 : Int32} (C : Cx p s m args meth c cX1_findTie RX1 8 G) (hret : meth.sig.returnType = (some .boolean))  (hg3 : ∀ (h : Hs) (w1 : Option Nat) (x2 : Int32) (x3 : Int32) (x4 : Int32), g3 h w1 x2 x3 x4 = some r → V p l e rmX1_findTie s m args below meth c G 8 (MQ below (QcG G (some (.inl r.1)) r.2) args s rmX1_findTie.cells rmX1_findTie.slots (AG G)) h 0 0 3 [some (.inr (some t)), some (.inr w1), some (.inl x2), some (.inl x3), some (.inl x4), none, none, none] []) (hf : fX1_findTie_b3_body N  g3 t h w1 x2 x3 x4 = some r) : V p l e rmX1_findTie s m args below meth c G 8 (MQ below (QcG G (some (.inl r.1)) r.2) args s rmX1_findTie.cells rmX1_findTie.slots (AG G)) h 0 0 3 [some (.inr (some t)), some (.inr w1), some (.inl x2), some (.inl x3), some (.inl x4), none, none, none] [] := by
  unfold fX1_findTie_b3_body at hf
  refine r_iload C dX1_findTie_3 rfl ?_
  refine r_aload_n C dX1_findTie_5 rfl ?_
  obtain ⟨o1, eo1, hf⟩ := bS hf
  refine r_getR C dX1_findTie_6 fl_X1_21 rfl eo1 ?_
  obtain ⟨v2, ev2, hf⟩ := bS hf
  refine r_getI C dX1_findTie_9 fl_X1_71 rfl ev2 ?_
  refine r_icmp_ge (tgt := 113) C dX1_findTie_12 (by decide) (fun hc => ?_) (fun hc => ?_)
  · have hf := ifT hf hc
    refine r_aload_n C dX1_findTie_113 rfl ?_
    obtain ⟨o3, eo3, hf⟩ := bS hf
    refine r_getR C dX1_findTie_114 fl_X1_9 rfl eo3 ?_
    refine r_aload_n C dX1_findTie_117 rfl ?_
    obtain ⟨v4, ev4, hf⟩ := bS hf
    refine r_getI C dX1_findTie_118 fl_X1_94 rfl ev4 ?_
    refine r_bipush (v := -2) C dX1_findTie_121 (by decide) ?_
    obtain ⟨h5, eh5, hf⟩ := bS hf
    refine r_iast C dX1_findTie_123 eh5 ?_
    refine r_aload_n C dX1_findTie_124 rfl ?_
    obtain ⟨o6, eo6, hf⟩ := bS hf
    refine r_getR C dX1_findTie_125 fl_X1_15 rfl eo6 ?_
    refine r_aload_n C dX1_findTie_128 rfl ?_
    obtain ⟨v7, ev7, hf⟩ := bS hf
    refine r_getI C dX1_findTie_129 fl_X1_94 rfl ev7 ?_
    refine r_bipush (v := -2) C dX1_findTie_132 (by decide) ?_
    obtain ⟨h8, eh8, hf⟩ := bS hf
    refine r_iast C dX1_findTie_134 eh8 ?_
    refine r_iconst (v := 0) C dX1_findTie_135 (by decide) ?_
    exact r_zretF C dX1_findTie_136 hret (z := 0) rfl hf (by decide) (by decide)
  · have hf := ifF hf hc
    refine r_aload_n C dX1_findTie_15 rfl ?_
    obtain ⟨o9, eo9, hf⟩ := bS hf
    refine r_getR C dX1_findTie_16 fl_X1_21 rfl eo9 ?_
    obtain ⟨o10, eo10, hf⟩ := bS hf
    refine r_getR C dX1_findTie_19 fl_X1_74 rfl eo10 ?_
    refine r_iload C dX1_findTie_22 rfl ?_
    obtain ⟨o11, eo11, hf⟩ := bS hf
    refine r_qald (t := 5) C dX1_findTie_24 (by decide) (by decide) rfl eo11 ?_
    refine r_astore C dX1_findTie_25 (by decide) ?_
    refine r_aload C dX1_findTie_27 rfl ?_
    obtain ⟨o12, eo12, hf⟩ := bS hf
    refine r_getR C dX1_findTie_29 fl_X1_77 rfl eo12 ?_
    refine r_aload_n C dX1_findTie_32 rfl ?_
    refine r_acmp_ne (tgt := 56) C dX1_findTie_33 (by decide) (fun hc => ?_) (fun hc => ?_)
    · have hf := ifF hf hc
      exact V.sub (wX1_findTie_b56 C hret hg3 hf) (LW_s rfl (LW_s rfl (LW_s rfl (LW_s rfl (LW_s rfl (LW_s rfl (LW_n (LW_n (LW_e)))))))))
    · have hf := ifT hf hc
      refine r_aload C dX1_findTie_36 rfl ?_
      obtain ⟨v13, ev13, hf⟩ := bS hf
      refine r_getI C dX1_findTie_38 fl_X1_83 rfl ev13 ?_
      refine r_if_ne (tgt := 56) C dX1_findTie_41 (by decide) (fun hc => ?_) (fun hc => ?_)
      · have hf := ifF hf hc
        exact V.sub (wX1_findTie_b56 C hret hg3 hf) (LW_s rfl (LW_s rfl (LW_s rfl (LW_s rfl (LW_s rfl (LW_s rfl (LW_n (LW_n (LW_e)))))))))
      · have hf := ifT hf hc
        refine r_aload C dX1_findTie_44 rfl ?_
        obtain ⟨a15, ea15, hf⟩ := bS hf
        obtain ⟨r14, er14, hf⟩ := bS hf
        refine r_invV1 (As := []) (ci := 4) C dX1_findTie_46 mcX4_spare wd_715 wd_515 wd_516 rfl rfl (by decide) ⟨by decide, by decide⟩ ⟨by decide, by decide⟩ rfl (Nat.le_of_ble_eq_true rfl) ea15 (kX4_spare l G er14) ?_
        refine r_if_lt (tgt := 56) C dX1_findTie_49 (by decide) (fun hc => ?_) (fun hc => ?_)
        · have hf := ifT hf hc
          exact V.sub (wX1_findTie_b56 C hret hg3 hf) (LW_s rfl (LW_s rfl (LW_s rfl (LW_s rfl (LW_s rfl (LW_s rfl (LW_n (LW_n (LW_e)))))))))
        · have hf := ifF hf hc
          refine r_iconst (v := 1) C dX1_findTie_52 (by decide) ?_
          refine r_goto (tgt := 57) C dX1_findTie_53 (by decide) ?_
          exact V.sub (wX1_findTie_b57 C hret hg3 hf) (LW_s rfl (LW_s rfl (LW_s rfl (LW_s rfl (LW_s rfl (LW_s rfl (LW_n (LW_n (LW_e)))))))))
theorem wX1_findTie_b3 {p : Program} {l : Launch} {e : Env} {s : State} {m : MethodId} {args : Array Value} {below : List Frame} {meth : Method} {c : Code} {G : Gl} {N : Nat} {r : Int32 × Hs}  {t : Nat} (C : Cx p s m args meth c cX1_findTie RX1 8 G) (hret : meth.sig.returnType = (some .boolean))  : ∀ (n : Nat) (h : Hs) (w1 : Option Nat) (x2 : Int32) (x3 : Int32) (x4 : Int32), fX1_findTie_b3 N  t n h w1 x2 x3 x4 = some r → V p l e rmX1_findTie s m args below meth c G 8 (MQ below (QcG G (some (.inl r.1)) r.2) args s rmX1_findTie.cells rmX1_findTie.slots (AG G)) h 0 0 3 [some (.inr (some t)), some (.inr w1), some (.inl x2), some (.inl x3), some (.inl x4), none, none, none] [] := by
  intro n
  induction n with
  | zero => intro h w1 x2 x3 x4 hf; exact absurd (show (none : Option (Int32 × Hs)) = some r from hf) (fun q => by cases q)
  | succ n ih => intro h w1 x2 x3 x4 hf; exact wX1_findTie_b3_body C hret  ih (show fX1_findTie_b3_body N  (fX1_findTie_b3 N  t n) t h w1 x2 x3 x4 = some r from hf)
noncomputable def fX1_findTie (N : Nat) (h : Hs) (t : Nat) (p1 : Option Nat) (p2 : Int32) (p3 : Int32) : Option (Int32 × Hs) :=
  fX1_findTie_b3 N t N h p1 p2 p3 0
set_option maxHeartbeats 4000000 in
set_option maxRecDepth 20000 in
theorem kX1_findTie (l : Launch) (G : Gl) {N : Nat} {h : Hs} {t : Nat} {p1 : Option Nat} {p2 : Int32} {p3 : Int32} {r : Int32 × Hs} (hf : fX1_findTie N h t p1 p2 p3 = some r) : CT l G yX1_findTie cX1_findTie 8 (some .boolean) rmX1_findTie [.inr (some t), .inr p1, .inl p2, .inl p3] h (some (.inl r.1)) r.2 := by
  refine mk_CT (by decide) (Nat.le_of_ble_eq_true rfl) ?_
  intro p e s m args below meth c C hret hin
  unfold fX1_findTie at hf
  refine r_iconst (v := 0) C dX1_findTie_0 (by decide) ?_
  refine r_istore C dX1_findTie_1 (by decide) ?_
  exact V.sub (wX1_findTie_b3 C hret N _ _ _ _ _ hf) (LW_s rfl (LW_s rfl (LW_s rfl (LW_s rfl (LW_s rfl (LW_n (LW_n (LW_n (LW_e)))))))))

theorem dgX1_isReady_0 : (decode cX1_isReady 0 = .ok (.aload_n 1, 1)) ∧ (decode cX1_isReady 1 = .ok (.getfield 129, 3)) ∧ (decode cX1_isReady 4 = .ok (.aload_n 0, 1)) ∧ (decode cX1_isReady 5 = .ok (.getfield 9, 3)) ∧ (decode cX1_isReady 8 = .ok (.iload_n 2, 1)) ∧ (decode cX1_isReady 9 = .ok (.iaload, 1)) ∧ (decode cX1_isReady 10 = .ok (.if_icmp .ne 37, 3)) ∧ (decode cX1_isReady 13 = .ok (.aload_n 1, 1)) ∧ (decode cX1_isReady 14 = .ok (.getfield 130, 3)) ∧ (decode cX1_isReady 17 = .ok (.ifCond .ne 30, 3)) ∧ (decode cX1_isReady 20 = .ok (.aload_n 1, 1)) ∧ (decode cX1_isReady 21 = .ok (.getfield 133, 3)) ∧ True := dkW [(0, .aload_n 1, 1), (1, .getfield 129, 3), (4, .aload_n 0, 1), (5, .getfield 9, 3), (8, .iload_n 2, 1), (9, .iaload, 1), (10, .if_icmp .ne 37, 3), (13, .aload_n 1, 1), (14, .getfield 130, 3), (17, .ifCond .ne 30, 3), (20, .aload_n 1, 1), (21, .getfield 133, 3)] 0 (by decide +kernel)
theorem dX1_isReady_0 : decode cX1_isReady 0 = .ok (.aload_n 1, 1) := dgX1_isReady_0.1
theorem dX1_isReady_1 : decode cX1_isReady 1 = .ok (.getfield 129, 3) := dgX1_isReady_0.2.1
theorem dX1_isReady_4 : decode cX1_isReady 4 = .ok (.aload_n 0, 1) := dgX1_isReady_0.2.2.1
theorem dX1_isReady_5 : decode cX1_isReady 5 = .ok (.getfield 9, 3) := dgX1_isReady_0.2.2.2.1
theorem dX1_isReady_8 : decode cX1_isReady 8 = .ok (.iload_n 2, 1) := dgX1_isReady_0.2.2.2.2.1
theorem dX1_isReady_9 : decode cX1_isReady 9 = .ok (.iaload, 1) := dgX1_isReady_0.2.2.2.2.2.1
theorem dX1_isReady_10 : decode cX1_isReady 10 = .ok (.if_icmp .ne 37, 3) := dgX1_isReady_0.2.2.2.2.2.2.1
theorem dX1_isReady_13 : decode cX1_isReady 13 = .ok (.aload_n 1, 1) := dgX1_isReady_0.2.2.2.2.2.2.2.1
theorem dX1_isReady_14 : decode cX1_isReady 14 = .ok (.getfield 130, 3) := dgX1_isReady_0.2.2.2.2.2.2.2.2.1
theorem dX1_isReady_17 : decode cX1_isReady 17 = .ok (.ifCond .ne 30, 3) := dgX1_isReady_0.2.2.2.2.2.2.2.2.2.1
theorem dX1_isReady_20 : decode cX1_isReady 20 = .ok (.aload_n 1, 1) := dgX1_isReady_0.2.2.2.2.2.2.2.2.2.2.1
theorem dX1_isReady_21 : decode cX1_isReady 21 = .ok (.getfield 133, 3) := dgX1_isReady_0.2.2.2.2.2.2.2.2.2.2.2.1
theorem dgX1_isReady_24 : (decode cX1_isReady 24 = .ok (.ifnull 23, 3)) ∧ (decode cX1_isReady 27 = .ok (.aload_n 1, 1)) ∧ (decode cX1_isReady 28 = .ok (.getfield 133, 3)) ∧ (decode cX1_isReady 31 = .ok (.getfield 137, 3)) ∧ (decode cX1_isReady 34 = .ok (.aload_n 0, 1)) ∧ (decode cX1_isReady 35 = .ok (.getfield 15, 3)) ∧ (decode cX1_isReady 38 = .ok (.iload_n 2, 1)) ∧ (decode cX1_isReady 39 = .ok (.iaload, 1)) ∧ (decode cX1_isReady 40 = .ok (.if_icmp .ne 7, 3)) ∧ (decode cX1_isReady 43 = .ok (.iconst 1, 1)) ∧ (decode cX1_isReady 44 = .ok (.goto 4, 3)) ∧ (decode cX1_isReady 47 = .ok (.iconst 0, 1)) ∧ True := dkW [(24, .ifnull 23, 3), (27, .aload_n 1, 1), (28, .getfield 133, 3), (31, .getfield 137, 3), (34, .aload_n 0, 1), (35, .getfield 15, 3), (38, .iload_n 2, 1), (39, .iaload, 1), (40, .if_icmp .ne 7, 3), (43, .iconst 1, 1), (44, .goto 4, 3), (47, .iconst 0, 1)] 24 (by decide +kernel)
theorem dX1_isReady_24 : decode cX1_isReady 24 = .ok (.ifnull 23, 3) := dgX1_isReady_24.1
theorem dX1_isReady_27 : decode cX1_isReady 27 = .ok (.aload_n 1, 1) := dgX1_isReady_24.2.1
theorem dX1_isReady_28 : decode cX1_isReady 28 = .ok (.getfield 133, 3) := dgX1_isReady_24.2.2.1
theorem dX1_isReady_31 : decode cX1_isReady 31 = .ok (.getfield 137, 3) := dgX1_isReady_24.2.2.2.1
theorem dX1_isReady_34 : decode cX1_isReady 34 = .ok (.aload_n 0, 1) := dgX1_isReady_24.2.2.2.2.1
theorem dX1_isReady_35 : decode cX1_isReady 35 = .ok (.getfield 15, 3) := dgX1_isReady_24.2.2.2.2.2.1
theorem dX1_isReady_38 : decode cX1_isReady 38 = .ok (.iload_n 2, 1) := dgX1_isReady_24.2.2.2.2.2.2.1
theorem dX1_isReady_39 : decode cX1_isReady 39 = .ok (.iaload, 1) := dgX1_isReady_24.2.2.2.2.2.2.2.1
theorem dX1_isReady_40 : decode cX1_isReady 40 = .ok (.if_icmp .ne 7, 3) := dgX1_isReady_24.2.2.2.2.2.2.2.2.1
theorem dX1_isReady_43 : decode cX1_isReady 43 = .ok (.iconst 1, 1) := dgX1_isReady_24.2.2.2.2.2.2.2.2.2.1
theorem dX1_isReady_44 : decode cX1_isReady 44 = .ok (.goto 4, 3) := dgX1_isReady_24.2.2.2.2.2.2.2.2.2.2.1
theorem dX1_isReady_47 : decode cX1_isReady 47 = .ok (.iconst 0, 1) := dgX1_isReady_24.2.2.2.2.2.2.2.2.2.2.2.1
theorem dgX1_isReady_48 : (decode cX1_isReady 48 = .ok (.ireturn, 1)) ∧ True := dkW [(48, .ireturn, 1)] 48 (by decide +kernel)
theorem dX1_isReady_48 : decode cX1_isReady 48 = .ok (.ireturn, 1) := dgX1_isReady_48.1
abbrev rmX1_isReady : Room := { frames := 0, cells := 0, slots := 0, locals := 0 }
noncomputable def fX1_isReady_b48 (N : Nat)  (t : Nat) (h : Hs) (u0 : Int32) : Option (Int32 × Hs) :=
  (zc u0).bind fun z1 =>
  some (z1, h)
set_option maxHeartbeats 4000000 in
set_option maxRecDepth 20000 in
theorem wX1_isReady_b48 {p : Program} {l : Launch} {e : Env} {s : State} {m : MethodId} {args : Array Value} {below : List Frame} {meth : Method} {c : Code} {G : Gl} {N : Nat} {h : Hs} {r : Int32 × Hs}  {t : Nat} {u0 : Int32} (C : Cx p s m args meth c cX1_isReady RX1 3 G) (hret : meth.sig.returnType = (some .boolean))  (hf : fX1_isReady_b48 N  t h u0 = some r) : V p l e rmX1_isReady s m args below meth c G 3 (MQ below (QcG G (some (.inl r.1)) r.2) args s rmX1_isReady.cells rmX1_isReady.slots (AG G)) h 0 0 48 [some (.inr (some t)), none, none] [.inl u0] := by
  unfold fX1_isReady_b48 at hf
  obtain ⟨z1, ez1, hf⟩ := bS hf
  exact r_zretF C dX1_isReady_48 hret ez1 hf (by decide) (by decide)
noncomputable def fX1_isReady_b47 (N : Nat)  (t : Nat) (h : Hs)  : Option (Int32 × Hs) :=
  fX1_isReady_b48 N t h 0
set_option maxHeartbeats 4000000 in
set_option maxRecDepth 20000 in
theorem wX1_isReady_b47 {p : Program} {l : Launch} {e : Env} {s : State} {m : MethodId} {args : Array Value} {below : List Frame} {meth : Method} {c : Code} {G : Gl} {N : Nat} {h : Hs} {r : Int32 × Hs}  {t : Nat}  (C : Cx p s m args meth c cX1_isReady RX1 3 G) (hret : meth.sig.returnType = (some .boolean))  (hf : fX1_isReady_b47 N  t h  = some r) : V p l e rmX1_isReady s m args below meth c G 3 (MQ below (QcG G (some (.inl r.1)) r.2) args s rmX1_isReady.cells rmX1_isReady.slots (AG G)) h 0 0 47 [some (.inr (some t)), none, none] [] := by
  unfold fX1_isReady_b47 at hf
  refine r_iconst (v := 0) C dX1_isReady_47 (by decide) ?_
  exact V.sub (wX1_isReady_b48 C hret hf) (LW_s rfl (LW_n (LW_n (LW_e))))
noncomputable def fX1_isReady (N : Nat) (h : Hs) (t : Nat) (p1 : Option Nat) (p2 : Int32) : Option (Int32 × Hs) :=
  (oI 4 0 h p1).bind fun v1 =>
  (oR 1 1 h (some t)).bind fun o2 =>
  (lA 20 h o2 p2).bind fun v3 =>
  if v1 = v3 then (
  (oI 4 7 h p1).bind fun v4 =>
  if v4 = 0 then (
  (oR 4 5 h p1).bind fun o5 =>
  if o5 = none then (
  fX1_isReady_b47 N t h)
  else (oR 4 5 h p1).bind fun o6 =>
  (oI 2 0 h o6).bind fun v7 =>
  (oR 1 2 h (some t)).bind fun o8 =>
  (lA 20 h o8 p2).bind fun v9 =>
  if v7 = v9 then (
  fX1_isReady_b48 N t h 1)
  else fX1_isReady_b47 N t h)
  else fX1_isReady_b47 N t h)
  else fX1_isReady_b47 N t h
set_option maxHeartbeats 4000000 in
set_option maxRecDepth 20000 in
theorem kX1_isReady (l : Launch) (G : Gl) {N : Nat} {h : Hs} {t : Nat} {p1 : Option Nat} {p2 : Int32} {r : Int32 × Hs} (hf : fX1_isReady N h t p1 p2 = some r) : CT l G yX1_isReady cX1_isReady 3 (some .boolean) rmX1_isReady [.inr (some t), .inr p1, .inl p2] h (some (.inl r.1)) r.2 := by
  refine mk_CT (by decide) (Nat.le_of_ble_eq_true rfl) ?_
  intro p e s m args below meth c C hret hin
  unfold fX1_isReady at hf
  refine r_aload_n C dX1_isReady_0 rfl ?_
  obtain ⟨v1, ev1, hf⟩ := bS hf
  refine r_getI C dX1_isReady_1 fl_X1_129 rfl ev1 ?_
  refine r_aload_n C dX1_isReady_4 rfl ?_
  obtain ⟨o2, eo2, hf⟩ := bS hf
  refine r_getR C dX1_isReady_5 fl_X1_9 rfl eo2 ?_
  refine r_iload_n C dX1_isReady_8 rfl ?_
  obtain ⟨v3, ev3, hf⟩ := bS hf
  refine r_iald C dX1_isReady_9 ev3 ?_
  refine r_icmp_ne (tgt := 47) C dX1_isReady_10 (by decide) (fun hc => ?_) (fun hc => ?_)
  · have hf := ifF hf hc
    exact V.sub (wX1_isReady_b47 C hret hf) (LW_s rfl (LW_n (LW_n (LW_e))))
  · have hf := ifT hf hc
    refine r_aload_n C dX1_isReady_13 rfl ?_
    obtain ⟨v4, ev4, hf⟩ := bS hf
    refine r_getI C dX1_isReady_14 fl_X1_130 rfl ev4 ?_
    refine r_if_ne (tgt := 47) C dX1_isReady_17 (by decide) (fun hc => ?_) (fun hc => ?_)
    · have hf := ifF hf hc
      exact V.sub (wX1_isReady_b47 C hret hf) (LW_s rfl (LW_n (LW_n (LW_e))))
    · have hf := ifT hf hc
      refine r_aload_n C dX1_isReady_20 rfl ?_
      obtain ⟨o5, eo5, hf⟩ := bS hf
      refine r_getR C dX1_isReady_21 fl_X1_133 rfl eo5 ?_
      refine r_ifnull (tgt := 47) C dX1_isReady_24 (by decide) (fun hc => ?_) (fun hc => ?_)
      · have hf := ifT hf hc
        exact V.sub (wX1_isReady_b47 C hret hf) (LW_s rfl (LW_n (LW_n (LW_e))))
      · have hf := ifF hf hc
        refine r_aload_n C dX1_isReady_27 rfl ?_
        obtain ⟨o6, eo6, hf⟩ := bS hf
        refine r_getR C dX1_isReady_28 fl_X1_133 rfl eo6 ?_
        obtain ⟨v7, ev7, hf⟩ := bS hf
        refine r_getI C dX1_isReady_31 fl_X1_137 rfl ev7 ?_
        refine r_aload_n C dX1_isReady_34 rfl ?_
        obtain ⟨o8, eo8, hf⟩ := bS hf
        refine r_getR C dX1_isReady_35 fl_X1_15 rfl eo8 ?_
        refine r_iload_n C dX1_isReady_38 rfl ?_
        obtain ⟨v9, ev9, hf⟩ := bS hf
        refine r_iald C dX1_isReady_39 ev9 ?_
        refine r_icmp_ne (tgt := 47) C dX1_isReady_40 (by decide) (fun hc => ?_) (fun hc => ?_)
        · have hf := ifF hf hc
          exact V.sub (wX1_isReady_b47 C hret hf) (LW_s rfl (LW_n (LW_n (LW_e))))
        · have hf := ifT hf hc
          refine r_iconst (v := 1) C dX1_isReady_43 (by decide) ?_
          refine r_goto (tgt := 48) C dX1_isReady_44 (by decide) ?_
          exact V.sub (wX1_isReady_b48 C hret hf) (LW_s rfl (LW_n (LW_n (LW_e))))
